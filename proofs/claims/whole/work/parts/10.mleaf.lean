/-! the reference: its leaves -/
def fla (x : SC) : Nat → Nat := fun j => if j < 6 then scS x j else if j = 6 then scC x else if j < 55 then scF x (j - 7) else if j < 103 then scB x (j - 55) else scG x (j - 103)
theorem fla_S (x : SC) {j : Nat} (h : j < 6) : fla x j = scS x j := if_pos h
theorem fla_C (x : SC) : fla x 6 = scC x := rfl
theorem fla_F (x : SC) {p : Nat} (h : p < 48) : fla x (7 + p) = scF x p := by
  unfold fla
  rw [if_neg (by omega), if_neg (by omega), if_pos (by omega), show 7 + p - 7 = p by omega]
theorem fla_B (x : SC) {p : Nat} (h : p < 48) : fla x (55 + p) = scB x p := by
  unfold fla
  rw [if_neg (by omega), if_neg (by omega), if_neg (by omega), if_pos (by omega), show 55 + p - 55 = p by omega]
theorem fla_G (x : SC) {p : Nat} (_ : p < 48) : fla x (103 + p) = scG x p := by
  unfold fla
  rw [if_neg (by omega), if_neg (by omega), if_neg (by omega), if_neg (by omega), show 103 + p - 103 = p by omega]
theorem fla_uS (x : SC) {k v : Nat} (h : k < 6) (j : Nat) : upd (nA (fla x)) k (nI v) j = nA (fla (upN (scS x) k v, x.2)) j := by
  rw [upN_a]
  refine congrArg nI ?_
  unfold upN fla
  by_cases e : j = k
  · subst e; rw [if_pos rfl, if_pos h]; exact (if_pos rfl).symm
  · rw [if_neg e]
    by_cases h6 : j < 6
    · rw [if_pos h6, if_pos h6]; exact (if_neg e).symm
    · rw [if_neg h6, if_neg h6]
theorem fla_uC (x : SC) {v : Nat} (j : Nat) : upd (nA (fla x)) 6 (nI v) j = nA (fla (scS x, scF x, scB x, scG x, v)) j := by
  rw [upN_a]
  refine congrArg nI ?_
  unfold upN fla
  by_cases e : j = 6
  · subst e; rfl
  · rw [if_neg e]
    by_cases h6 : j < 6
    · rw [if_pos h6, if_pos h6]
    · rw [if_neg h6, if_neg h6, if_neg e, if_neg e]
theorem fla_uF (x : SC) {p v : Nat} (h : p < 48) (j : Nat) : upd (nA (fla x)) (7 + p) (nI v) j = nA (fla (scS x, upN (scF x) p v, x.2.2)) j := by
  rw [upN_a]
  refine congrArg nI ?_
  unfold upN fla
  by_cases e : j = 7 + p
  · subst e; rw [if_pos rfl, if_neg (by omega), if_neg (by omega), if_pos (by omega)]; exact (if_pos (by omega)).symm
  · rw [if_neg e]
    by_cases h6 : j < 6
    · rw [if_pos h6, if_pos h6]
    · rw [if_neg h6, if_neg h6]
      by_cases h7 : j = 6
      · rw [if_pos h7, if_pos h7]
      · rw [if_neg h7, if_neg h7]
        by_cases h8 : j < 55
        · rw [if_pos h8, if_pos h8]; exact (if_neg (by omega)).symm
        · rw [if_neg h8, if_neg h8]
theorem fla_uB (x : SC) {p v : Nat} (h : p < 48) (j : Nat) : upd (nA (fla x)) (55 + p) (nI v) j = nA (fla (scS x, scF x, upN (scB x) p v, x.2.2.2)) j := by
  rw [upN_a]
  refine congrArg nI ?_
  unfold upN fla
  by_cases e : j = 55 + p
  · subst e; rw [if_pos rfl, if_neg (by omega), if_neg (by omega), if_neg (by omega), if_pos (by omega)]; exact (if_pos (by omega)).symm
  · rw [if_neg e]
    by_cases h6 : j < 6
    · rw [if_pos h6, if_pos h6]
    · rw [if_neg h6, if_neg h6]
      by_cases h7 : j = 6
      · rw [if_pos h7, if_pos h7]
      · rw [if_neg h7, if_neg h7]
        by_cases h8 : j < 55
        · rw [if_pos h8, if_pos h8]
        · rw [if_neg h8, if_neg h8]
          by_cases h9 : j < 103
          · rw [if_pos h9, if_pos h9]; exact (if_neg (by omega)).symm
          · rw [if_neg h9, if_neg h9]
theorem fla_uG (x : SC) {p v : Nat} (_ : p < 48) (j : Nat) : upd (nA (fla x)) (103 + p) (nI v) j = nA (fla (scS x, scF x, scB x, upN (scG x) p v, scC x)) j := by
  rw [upN_a]
  refine congrArg nI ?_
  unfold upN fla
  by_cases e : j = 103 + p
  · subst e; rw [if_pos rfl, if_neg (by omega), if_neg (by omega), if_neg (by omega), if_neg (by omega)]; exact (if_pos (by omega)).symm
  · rw [if_neg e]
    by_cases h6 : j < 6
    · rw [if_pos h6, if_pos h6]
    · rw [if_neg h6, if_neg h6]
      by_cases h7 : j = 6
      · rw [if_pos h7, if_pos h7]
      · rw [if_neg h7, if_neg h7]
        by_cases h8 : j < 55
        · rw [if_pos h8, if_pos h8]
        · rw [if_neg h8, if_neg h8]
          by_cases h9 : j < 103
          · rw [if_pos h9, if_pos h9]
          · rw [if_neg h9, if_neg h9]; exact (if_neg (by omega)).symm
abbrev mdW (G : VC) (a : Nat → Nat) (al hi sl sv r o k t m e w tx : Nat → Nat) (cl : Nat → Int32) (hl tl sp rd : Nat) : va_W := [(a 0, kO 5 [.ref (a 1), .ref (a 2), .int (nI hl), .ref (a 3), .ref (a 4), .ref (a 5), .ref (a 6), .ref (a 7), .ref (a 8), .ref (a 9), .ref (a 10), .ref (a 11), .ref (a 12), .int (nI tl), .int (nI sp), .ref (a 13), .int (nI rd)]), (a 1, kA (gI G) 151 (nA al)), (a 2, kA (gI G) 906 (nA hi)), (a 3, kA (gI G) 302 (nA sl)), (a 4, kA (gI G) 2 (nA sv)), (a 5, kA (gI G) 48 (nA r)), (a 6, kA (gI G) 48 (nA o)), (a 7, kA (gI G) 48 (nA k)), (a 8, kA (gI G) 48 (nA t)), (a 9, kA (gI G) 48 (nA m)), (a 10, kA (gI G) 48 (nA e)), (a 11, kA (gI G) 48 (nA w)), (a 12, kA (gI G) 48 (nA tx)), (a 13, kA (gI G) 8 cl)]
def inL (v lo hi : Int64) : Bool := decide (lo ≤ v ∧ v ≤ hi)
theorem l_lt (a b : Int64) : a < b ↔ a.toInt < b.toInt := Int64.lt_iff_toInt_lt
theorem l_le (a b : Int64) : a ≤ b ↔ a.toInt ≤ b.toInt := Int64.le_iff_toInt_le
theorem lgc_lt {x y : Int64} (h : lg_cmp x y < 0) : x < y := by
  unfold lg_cmp at h
  split at h
  · exact absurd h (by decide)
  · split at h
    · exact absurd h (by decide)
    · rename_i h1 h2
      have h1 : ¬ y < x := h1
      rw [l_lt] at h1 ⊢
      have : x.toInt ≠ y.toInt := fun e => h2 (Int64.toInt_inj.mp e)
      omega
theorem lgc_gt {x y : Int64} (h : 0 < lg_cmp x y) : y < x := by
  unfold lg_cmp at h
  split at h
  · assumption
  · split at h
    · exact absurd h (by decide)
    · exact absurd h (by decide)
theorem lgc_nlt {x y : Int64} (h : ¬ lg_cmp x y < 0) : y ≤ x := by
  unfold lg_cmp at h
  split at h
  · rename_i h1
    have h1 : y < x := h1
    rw [l_lt] at h1; rw [l_le]; omega
  · split at h
    · rename_i h1 h2
      rw [h2, l_le]; omega
    · exact absurd (by decide) h
theorem lgc_ngt {x y : Int64} (h : ¬ 0 < lg_cmp x y) : x ≤ y := by
  unfold lg_cmp at h
  split at h
  · exact absurd (by decide) h
  · rename_i h1
    have h1 : ¬ y < x := h1
    rw [l_lt] at h1; rw [l_le]; omega
theorem inL_f1 {v lo hi : Int64} (h : v < lo) : inL v lo hi = false := by
  rw [l_lt] at h
  simp only [inL, decide_eq_false_iff_not, l_le]; omega
theorem inL_f2 {v lo hi : Int64} (h : hi < v) : inL v lo hi = false := by
  rw [l_lt] at h
  simp only [inL, decide_eq_false_iff_not, l_le]; omega
theorem inL_t {v lo hi : Int64} (h1 : lo ≤ v) (h2 : v ≤ hi) : inL v lo hi = true := by
  simp only [inL, decide_eq_true_eq]; exact ⟨h1, h2⟩
theorem i_wide (x : Int32) : x.toInt64.toInt = x.toInt := Int32.toInt_toInt64 x
theorem inL_ok (x : Int32) {n : Nat} (hn : n < 2 ^ 31) : inL x.toInt64 (0 : Int64) (lN n) = okI (n + 1) x := by
  have h0 : (0 : Int64).toInt = 0 := rfl
  unfold inL okI
  rw [decide_eq_decide, l_le, l_le, i_wide, lN_toInt hn, h0]
  omega
theorem inL_NN {a b c : Nat} (ha : a < 2 ^ 31) (hb : b < 2 ^ 31) (hc : c < 2 ^ 31) : inL (nI a).toInt64 (nI b).toInt64 (nI c).toInt64 = decide (b ≤ a ∧ a ≤ c) := by
  unfold inL
  rw [decide_eq_decide, l_le, l_le, i_wide, i_wide, i_wide, nI_toInt ha, nI_toInt hb, nI_toInt hc]
  omega
theorem m1N {a : Nat} (h : 0 < a) : nI a + (-1) = nI (a - 1) := by
  obtain ⟨b, rfl⟩ : ∃ b, a = b + 1 := ⟨a - 1, by omega⟩
  rw [pk_m1, Nat.add_sub_cancel]
theorem okI_m1 {a n : Nat} (ha : a < n) (hn : n < 2 ^ 31) : okI n (nI a + (-1)) = decide (0 < a) := by
  by_cases h : 0 < a
  · rw [m1N h, okI_n (by omega) (by omega), decide_eq_true h]
  · have : a = 0 := by omega
    subst this
    rw [decide_eq_false h]
    exact okI_m (by rfl)
/-- the pixel beside one, as the reference tells it -/
def wy (w : Nat) : Nat := if w < 2 then w + 2 else w - 2
def mbI (p w : Nat) : Int32 := if nbOK p (wy w) = true then nI (nbP p (wy w)) else -6
theorem mbI_t {p w : Nat} (h : nbOK p (wy w) = true) : mbI p w = nI (nbP p (wy w)) := if_pos h
theorem mbI_f {p w : Nat} (h : nbOK p (wy w) = false) : mbI p w = -6 := if_neg (by rw [h]; decide)
theorem wy_lt {w : Nat} (h : w < 4) : wy w < 4 := by unfold wy; split <;> omega
theorem wy_wy {w : Nat} (h : w < 4) : wy (wy w) = w := by unfold wy; split <;> split <;> omega
abbrev rm_c_X5_in : Room := { frames := 0, cells := 0, slots := 0, locals := 0 }
theorem hd_X5_in : yX5_in.cls ≠ "java/lang/invoke/MethodHandle" ∧ yX5_in.cls ≠ "java/lang/invoke/VarHandle" ∧ (parseMethodDescriptor yX5_in.desc).map (fun d => d.parameters.length) = some 3 := by decide +kernel
set_option maxRecDepth 100000 in
set_option maxHeartbeats 8000000 in
theorem c_X5_in (G : VC) (v : Int64) (lo : Int64) (hi : Int64) : Ctr yX5_in wsX5_in rm_c_X5_in G [.long (v), .long (lo), .long (hi)] (bl []) (fun v9_ u9_ => u9_ = (bl []) ∧ v9_ = some (.int (nI (bN (inL v lo hi))))) := by
  refine Ctr.int (cc := cX5_in) (maxL := 6) (ret := (some .boolean)) (lv0 := [some (.long (v)), none, some (.long (lo)), none, some (.long (hi)), none]) (by decide) rfl rfl rfl (Nat.le_of_ble_eq_true rfl) rfl (fun A X E hend => ?_)
  refine V.lload_n E dX5_in_0 rfl rfl ?_
  refine V.lload_n E dX5_in_1 rfl rfl ?_
  refine V.lcmp E dX5_in_2 ?_
  refine V.if_lt (tgt := 17) E dX5_in_3 (by decide) (fun q_3 => ?_) (fun q_3 => ?_)
  · refine V.iconst (v := nI (0)) E dX5_in_17 (by decide) ?_
    refine V.topN (b := bN (inL v lo hi)) (by first | exact (bN_f (inL_f1 (lgc_lt q_3))).symm | exact (bN_f (inL_f2 (lgc_gt q_10))).symm | exact (bN_t (inL_t (lgc_nlt q_3) (lgc_ngt q_10))).symm) ?_
    exact hend _ _ _ _ dX5_in_18 (nrB _) ⟨rfl, rfl⟩
  · refine V.lload_n E dX5_in_6 rfl rfl ?_
    refine V.lload E dX5_in_7 rfl ?_
    refine V.lcmp E dX5_in_9 ?_
    refine V.if_gt (tgt := 17) E dX5_in_10 (by decide) (fun q_10 => ?_) (fun q_10 => ?_)
    · refine V.iconst (v := nI (0)) E dX5_in_17 (by decide) ?_
      refine V.topN (b := bN (inL v lo hi)) (by first | exact (bN_f (inL_f1 (lgc_lt q_3))).symm | exact (bN_f (inL_f2 (lgc_gt q_10))).symm | exact (bN_t (inL_t (lgc_nlt q_3) (lgc_ngt q_10))).symm) ?_
      exact hend _ _ _ _ dX5_in_18 (nrB _) ⟨rfl, rfl⟩
    · refine V.iconst (v := nI (1)) E dX5_in_13 (by decide) ?_
      refine V.goto (tgt := 18) E dX5_in_14 (by decide) ?_
      refine V.topN (b := bN (inL v lo hi)) (by first | exact (bN_f (inL_f1 (lgc_lt q_3))).symm | exact (bN_f (inL_f2 (lgc_gt q_10))).symm | exact (bN_t (inL_t (lgc_nlt q_3) (lgc_ngt q_10))).symm) ?_
      exact hend _ _ _ _ dX5_in_18 (nrB _) ⟨rfl, rfl⟩
abbrev rm_c_X5_partOf : Room := { frames := 0, cells := 0, slots := 0, locals := 0 }
theorem hd_X5_partOf : yX5_partOf.cls ≠ "java/lang/invoke/MethodHandle" ∧ yX5_partOf.cls ≠ "java/lang/invoke/VarHandle" ∧ (parseMethodDescriptor yX5_partOf.desc).map (fun d => d.parameters.length) = some 2 := by decide +kernel
set_option maxRecDepth 100000 in
set_option maxHeartbeats 8000000 in
theorem c_X5_partOf (G : VC) (c : Nat) (k : Nat) (hc : c < 4096) (hk : k < 3) : Ctr yX5_partOf wsX5_partOf rm_c_X5_partOf G [.int (nI (c)), .int (nI (k))] (bl []) (fun v9_ u9_ => u9_ = (bl []) ∧ v9_ = some (.int (nI (P c k)))) := by
  refine Ctr.int (cc := cX5_partOf) (maxL := 2) (ret := (some .int)) (lv0 := [some (.int (nI (c))), some (.int (nI (k)))]) (by decide) rfl rfl rfl (Nat.le_of_ble_eq_true rfl) rfl (fun A X E hend => ?_)
  refine V.iload_n E dX5_partOf_0 rfl rfl ?_
  refine V.bipush (v := nI (8)) E dX5_partOf_1 (by decide) ?_
  refine V.iconst (v := nI (4)) E dX5_partOf_3 (by decide) ?_
  refine V.iload_n E dX5_partOf_4 rfl rfl ?_
  refine V.imulN E  dX5_partOf_5 ?_
  refine V.isubN E (by omega) dX5_partOf_6 ?_
  refine V.ishrN E (by omega) (by omega) dX5_partOf_7 ?_
  refine V.bipush (v := nI (15)) E dX5_partOf_8 (by decide) ?_
  refine V.iand15 E (Nat.lt_of_le_of_lt (Nat.div_le_self _ _) (by omega)) dX5_partOf_10 ?_
  refine V.topN (b := P c k) (by unfold P; rw [show 8 - 4 * k = 4 * (2 - k) by omega]) ?_
  exact hend _ _ _ _ dX5_partOf_11 (nrI _) ⟨rfl, rfl⟩
abbrev rm_c_X5_off : Room := { frames := 0, cells := 0, slots := 0, locals := 0 }
theorem hd_X5_off : yX5_off.cls ≠ "java/lang/invoke/MethodHandle" ∧ yX5_off.cls ≠ "java/lang/invoke/VarHandle" ∧ (parseMethodDescriptor yX5_off.desc).map (fun d => d.parameters.length) = some 1 := by decide +kernel
set_option maxRecDepth 100000 in
set_option maxHeartbeats 8000000 in
theorem c_X5_off (G : VC) (x : Int32) : Ctr yX5_off wsX5_off rm_c_X5_off G [.int (x)] (bl []) (fun v9_ u9_ => u9_ = (bl []) ∧ v9_ = some (.int (if 0 ≤ x then x else 0 - x))) := by
  refine Ctr.int (cc := cX5_off) (maxL := 1) (ret := (some .int)) (lv0 := [some (.int (x))]) (by decide) rfl rfl rfl (Nat.le_of_ble_eq_true rfl) rfl (fun A X E hend => ?_)
  refine V.iload_n E dX5_off_0 rfl rfl ?_
  refine V.if_ge (tgt := 9) E dX5_off_1 (by decide) (fun q_1 => ?_) (fun q_1 => ?_)
  · refine V.iload_n E dX5_off_9 rfl rfl ?_
    refine V.top (y := if 0 ≤ x then x else 0 - x) (by first | rw [if_pos q_1] | rw [if_neg q_1, Int32.zero_sub]) ?_
    exact hend _ _ _ _ dX5_off_10 (nrI _) ⟨rfl, rfl⟩
  · refine V.iload_n E dX5_off_4 rfl rfl ?_
    refine V.ineg E dX5_off_5 ?_
    refine V.goto (tgt := 10) E dX5_off_6 (by decide) ?_
    refine V.top (y := if 0 ≤ x then x else 0 - x) (by first | rw [if_pos q_1] | rw [if_neg q_1, Int32.zero_sub]) ?_
    exact hend _ _ _ _ dX5_off_10 (nrI _) ⟨rfl, rfl⟩
abbrev rm_c_X5_distanceOf : Room := { frames := 1, cells := 0, slots := 0, locals := 21 }
theorem hd_X5_distanceOf : yX5_distanceOf.cls ≠ "java/lang/invoke/MethodHandle" ∧ yX5_distanceOf.cls ≠ "java/lang/invoke/VarHandle" ∧ (parseMethodDescriptor yX5_distanceOf.desc).map (fun d => d.parameters.length) = some 2 := by decide +kernel
set_option maxRecDepth 100000 in
set_option maxHeartbeats 8000000 in
theorem c_X5_distanceOf (G : VC) (a : Nat) (b : Nat) (ha : a < 4096) (hb : b < 4096) : Ctr yX5_distanceOf wsX5_distanceOf rm_c_X5_distanceOf G [.int (nI (a)), .int (nI (b))] (bl []) (fun v9_ u9_ => u9_ = (bl []) ∧ v9_ = some (.int (nI (dist a b)))) := by
  refine Ctr.int (cc := cX5_distanceOf) (maxL := 2) (ret := (some .int)) (lv0 := [some (.int (nI (a))), some (.int (nI (b)))]) (by decide) rfl rfl rfl (Nat.le_of_ble_eq_true rfl) rfl (fun A X E hend => ?_)
  refine V.iload_n E dX5_distanceOf_0 rfl rfl ?_
  refine V.iconst (v := nI (0)) E dX5_distanceOf_1 (by decide) ?_
  refine V.callS E (c_X5_partOf G a 0 (by omega) (by omega)) (bl []) [] gX5_distanceOf_X5_partOf rfl hd_X5_partOf ⟨⟨Nat.le_of_ble_eq_true rfl, Nat.le_of_ble_eq_true rfl⟩, Nat.le_of_ble_eq_true rfl, Nat.le_of_ble_eq_true rfl⟩ rfl (Nat.le_of_ble_eq_true rfl) rfl dX5_distanceOf_2 (List.Perm.refl _) (kc' := 0) (ks' := 0) rfl rfl (rwI (ws' := (bl [])) (List.Perm.refl _) ?_)
  refine V.iload_n E dX5_distanceOf_5 rfl rfl ?_
  refine V.iconst (v := nI (0)) E dX5_distanceOf_6 (by decide) ?_
  refine V.callS E (c_X5_partOf G b 0 (by omega) (by omega)) (bl []) [.int (nI (P a 0))] gX5_distanceOf_X5_partOf rfl hd_X5_partOf ⟨⟨Nat.le_of_ble_eq_true rfl, Nat.le_of_ble_eq_true rfl⟩, Nat.le_of_ble_eq_true rfl, Nat.le_of_ble_eq_true rfl⟩ rfl (Nat.le_of_ble_eq_true rfl) rfl dX5_distanceOf_7 (List.Perm.refl _) (kc' := 0) (ks' := 0) rfl rfl (rwI (ws' := (bl [])) (List.Perm.refl _) ?_)
  refine V.isub E dX5_distanceOf_10  ?_
  refine V.callS E (c_X5_off G ((nI (P a 0)) - (nI (P b 0))) ) (bl []) [] gX5_distanceOf_X5_off rfl hd_X5_off ⟨⟨Nat.le_of_ble_eq_true rfl, Nat.le_of_ble_eq_true rfl⟩, Nat.le_of_ble_eq_true rfl, Nat.le_of_ble_eq_true rfl⟩ rfl (Nat.le_of_ble_eq_true rfl) rfl dX5_distanceOf_11 (List.Perm.refl _) (kc' := 0) (ks' := 0) rfl rfl (rwI (ws' := (bl [])) (List.Perm.refl _) ?_)
  refine V.top (y := nI (((P a 0) - (P b 0)) + ((P b 0) - (P a 0)))) (mm_abs (Nat.lt_trans (P_lt _ _) (by decide)) (Nat.lt_trans (P_lt _ _) (by decide))) ?_
  refine V.iload_n E dX5_distanceOf_14 rfl rfl ?_
  refine V.iconst (v := nI (1)) E dX5_distanceOf_15 (by decide) ?_
  refine V.callS E (c_X5_partOf G a 1 (by omega) (by omega)) (bl []) [.int (nI (((P a 0) - (P b 0)) + ((P b 0) - (P a 0))))] gX5_distanceOf_X5_partOf rfl hd_X5_partOf ⟨⟨Nat.le_of_ble_eq_true rfl, Nat.le_of_ble_eq_true rfl⟩, Nat.le_of_ble_eq_true rfl, Nat.le_of_ble_eq_true rfl⟩ rfl (Nat.le_of_ble_eq_true rfl) rfl dX5_distanceOf_16 (List.Perm.refl _) (kc' := 0) (ks' := 0) rfl rfl (rwI (ws' := (bl [])) (List.Perm.refl _) ?_)
  refine V.iload_n E dX5_distanceOf_19 rfl rfl ?_
  refine V.iconst (v := nI (1)) E dX5_distanceOf_20 (by decide) ?_
  refine V.callS E (c_X5_partOf G b 1 (by omega) (by omega)) (bl []) [.int (nI (P a 1)), .int (nI (((P a 0) - (P b 0)) + ((P b 0) - (P a 0))))] gX5_distanceOf_X5_partOf rfl hd_X5_partOf ⟨⟨Nat.le_of_ble_eq_true rfl, Nat.le_of_ble_eq_true rfl⟩, Nat.le_of_ble_eq_true rfl, Nat.le_of_ble_eq_true rfl⟩ rfl (Nat.le_of_ble_eq_true rfl) rfl dX5_distanceOf_21 (List.Perm.refl _) (kc' := 0) (ks' := 0) rfl rfl (rwI (ws' := (bl [])) (List.Perm.refl _) ?_)
  refine V.isub E dX5_distanceOf_24  ?_
  refine V.callS E (c_X5_off G ((nI (P a 1)) - (nI (P b 1))) ) (bl []) [.int (nI (((P a 0) - (P b 0)) + ((P b 0) - (P a 0))))] gX5_distanceOf_X5_off rfl hd_X5_off ⟨⟨Nat.le_of_ble_eq_true rfl, Nat.le_of_ble_eq_true rfl⟩, Nat.le_of_ble_eq_true rfl, Nat.le_of_ble_eq_true rfl⟩ rfl (Nat.le_of_ble_eq_true rfl) rfl dX5_distanceOf_25 (List.Perm.refl _) (kc' := 0) (ks' := 0) rfl rfl (rwI (ws' := (bl [])) (List.Perm.refl _) ?_)
  refine V.top (y := nI (((P a 1) - (P b 1)) + ((P b 1) - (P a 1)))) (mm_abs (Nat.lt_trans (P_lt _ _) (by decide)) (Nat.lt_trans (P_lt _ _) (by decide))) ?_
  refine V.iaddN E  dX5_distanceOf_28 ?_
  refine V.iload_n E dX5_distanceOf_29 rfl rfl ?_
  refine V.iconst (v := nI (2)) E dX5_distanceOf_30 (by decide) ?_
  refine V.callS E (c_X5_partOf G a 2 (by omega) (by omega)) (bl []) [.int (nI ((((P a 0) - (P b 0)) + ((P b 0) - (P a 0))) + (((P a 1) - (P b 1)) + ((P b 1) - (P a 1)))))] gX5_distanceOf_X5_partOf rfl hd_X5_partOf ⟨⟨Nat.le_of_ble_eq_true rfl, Nat.le_of_ble_eq_true rfl⟩, Nat.le_of_ble_eq_true rfl, Nat.le_of_ble_eq_true rfl⟩ rfl (Nat.le_of_ble_eq_true rfl) rfl dX5_distanceOf_31 (List.Perm.refl _) (kc' := 0) (ks' := 0) rfl rfl (rwI (ws' := (bl [])) (List.Perm.refl _) ?_)
  refine V.iload_n E dX5_distanceOf_34 rfl rfl ?_
  refine V.iconst (v := nI (2)) E dX5_distanceOf_35 (by decide) ?_
  refine V.callS E (c_X5_partOf G b 2 (by omega) (by omega)) (bl []) [.int (nI (P a 2)), .int (nI ((((P a 0) - (P b 0)) + ((P b 0) - (P a 0))) + (((P a 1) - (P b 1)) + ((P b 1) - (P a 1)))))] gX5_distanceOf_X5_partOf rfl hd_X5_partOf ⟨⟨Nat.le_of_ble_eq_true rfl, Nat.le_of_ble_eq_true rfl⟩, Nat.le_of_ble_eq_true rfl, Nat.le_of_ble_eq_true rfl⟩ rfl (Nat.le_of_ble_eq_true rfl) rfl dX5_distanceOf_36 (List.Perm.refl _) (kc' := 0) (ks' := 0) rfl rfl (rwI (ws' := (bl [])) (List.Perm.refl _) ?_)
  refine V.isub E dX5_distanceOf_39  ?_
  refine V.callS E (c_X5_off G ((nI (P a 2)) - (nI (P b 2))) ) (bl []) [.int (nI ((((P a 0) - (P b 0)) + ((P b 0) - (P a 0))) + (((P a 1) - (P b 1)) + ((P b 1) - (P a 1)))))] gX5_distanceOf_X5_off rfl hd_X5_off ⟨⟨Nat.le_of_ble_eq_true rfl, Nat.le_of_ble_eq_true rfl⟩, Nat.le_of_ble_eq_true rfl, Nat.le_of_ble_eq_true rfl⟩ rfl (Nat.le_of_ble_eq_true rfl) rfl dX5_distanceOf_40 (List.Perm.refl _) (kc' := 0) (ks' := 0) rfl rfl (rwI (ws' := (bl [])) (List.Perm.refl _) ?_)
  refine V.top (y := nI (((P a 2) - (P b 2)) + ((P b 2) - (P a 2)))) (mm_abs (Nat.lt_trans (P_lt _ _) (by decide)) (Nat.lt_trans (P_lt _ _) (by decide))) ?_
  refine V.iaddN E  dX5_distanceOf_43 ?_
  refine V.topN (b := dist a b) (by unfold dist; omega) ?_
  exact hend _ _ _ _ dX5_distanceOf_44 (nrI _) ⟨rfl, rfl⟩
abbrev rm_c_X5_mainPart : Room := { frames := 1, cells := 0, slots := 0, locals := 21 }
theorem hd_X5_mainPart : yX5_mainPart.cls ≠ "java/lang/invoke/MethodHandle" ∧ yX5_mainPart.cls ≠ "java/lang/invoke/VarHandle" ∧ (parseMethodDescriptor yX5_mainPart.desc).map (fun d => d.parameters.length) = some 0 := by decide +kernel
set_option maxRecDepth 100000 in
set_option maxHeartbeats 8000000 in
theorem c_X5_mainPart (G : VC) (a : Nat → Nat) (hi : Nat → Nat) (sl : Nat → Nat) (sv : Nat → Nat) (r : Nat → Nat) (o : Nat → Nat) (k : Nat → Nat) (t : Nat → Nat) (m : Nat → Nat) (e : Nat → Nat) (w : Nat → Nat) (tx : Nat → Nat) (cl : Nat → Int32) (hl : Nat) (tl : Nat) (sp : Nat) (rd : Nat) (x : SC) (hx : SInv x) : Ctr yX5_mainPart wsX5_mainPart rm_c_X5_mainPart G [.ref (a 0)] (bl [mdW G a (fla x) hi sl sv r o k t m e w tx cl hl tl sp rd]) (fun v9_ u9_ => u9_ = (bl [mdW G a (fla x) hi sl sv r o k t m e w tx cl hl tl sp rd]) ∧ v9_ = some (.int (nI (mainP (scC x))))) := by
  refine Ctr.int (cc := cX5_mainPart) (maxL := 3) (ret := (some .int)) (lv0 := [some (.ref (a 0)), none, none]) (by decide) rfl rfl rfl (Nat.le_of_ble_eq_true rfl) rfl (fun A X E hend => ?_)
  refine V.aload_n E dX5_mainPart_0 rfl rfl ?_
  refine V.getf (C := RX5) (T := TX5) (N := 17) (ref := "GlassSpillModel") E 0 5 0 (by decide +kernel) rfl rfl (by decide) (by decide +kernel) rfl rfl dX5_mainPart_1 ?_
  refine V.bipush (v := nI (6)) E dX5_mainPart_4 (by decide) ?_
  refine V.ialdN (v := nI (scC x)) E 1 rfl (by omega) (by decide) (congrArg nI (fla_C _)) dX5_mainPart_6 ?_
  refine V.istore_n (lv' := [some (.ref (a 0)), some (.int (nI (scC x))), none]) E dX5_mainPart_7 rfl (Nat.le_of_ble_eq_true rfl) rfl rfl ?_
  refine V.iload_n E dX5_mainPart_8 rfl rfl ?_
  refine V.iconst (v := nI (1)) E dX5_mainPart_9 (by decide) ?_
  refine V.callS E (c_X5_partOf G (scC x) 1 (hx.c) (by decide)) (bl [mdW G a (fla x) hi sl sv r o k t m e w tx cl hl tl sp rd]) [] gX5_mainPart_X5_partOf rfl hd_X5_partOf ⟨⟨Nat.le_of_ble_eq_true rfl, Nat.le_of_ble_eq_true rfl⟩, Nat.le_of_ble_eq_true rfl, Nat.le_of_ble_eq_true rfl⟩ rfl (Nat.le_of_ble_eq_true rfl) rfl dX5_mainPart_10 (List.Perm.refl _) (kc' := 0) (ks' := 0) rfl rfl (rwI (ws' := (bl [mdW G a (fla x) hi sl sv r o k t m e w tx cl hl tl sp rd])) (List.Perm.refl _) ?_)
  refine V.iload_n E dX5_mainPart_13 rfl rfl ?_
  refine V.iconst (v := nI (2)) E dX5_mainPart_14 (by decide) ?_
  refine V.callS E (c_X5_partOf G (scC x) 2 (hx.c) (by decide)) (bl [mdW G a (fla x) hi sl sv r o k t m e w tx cl hl tl sp rd]) [.int (nI (P (scC x) 1))] gX5_mainPart_X5_partOf rfl hd_X5_partOf ⟨⟨Nat.le_of_ble_eq_true rfl, Nat.le_of_ble_eq_true rfl⟩, Nat.le_of_ble_eq_true rfl, Nat.le_of_ble_eq_true rfl⟩ rfl (Nat.le_of_ble_eq_true rfl) rfl dX5_mainPart_15 (List.Perm.refl _) (kc' := 0) (ks' := 0) rfl rfl (rwI (ws' := (bl [mdW G a (fla x) hi sl sv r o k t m e w tx cl hl tl sp rd])) (List.Perm.refl _) ?_)
  refine V.icmp_ltN (tgt := 25) E (Nat.lt_trans (P_lt _ _) (by decide)) (Nat.lt_trans (P_lt _ _) (by decide)) dX5_mainPart_18 (by decide) (fun q_18 => ?_) (fun q_18 => ?_)
  · refine V.iconst (v := nI (2)) E dX5_mainPart_25 (by decide) ?_
    refine V.istore_n (lv' := [some (.ref (a 0)), some (.int (nI (scC x))), some (.int (nI (2)))]) E dX5_mainPart_26 rfl (Nat.le_of_ble_eq_true rfl) rfl rfl ?_
    refine V.iload_n E dX5_mainPart_27 rfl rfl ?_
    refine V.iconst (v := nI (0)) E dX5_mainPart_28 (by decide) ?_
    refine V.callS E (c_X5_partOf G (scC x) 0 (hx.c) (by decide)) (bl [mdW G a (fla x) hi sl sv r o k t m e w tx cl hl tl sp rd]) [] gX5_mainPart_X5_partOf rfl hd_X5_partOf ⟨⟨Nat.le_of_ble_eq_true rfl, Nat.le_of_ble_eq_true rfl⟩, Nat.le_of_ble_eq_true rfl, Nat.le_of_ble_eq_true rfl⟩ rfl (Nat.le_of_ble_eq_true rfl) rfl dX5_mainPart_29 (List.Perm.refl _) (kc' := 0) (ks' := 0) rfl rfl (rwI (ws' := (bl [mdW G a (fla x) hi sl sv r o k t m e w tx cl hl tl sp rd])) (List.Perm.refl _) ?_)
    refine V.iload_n E dX5_mainPart_32 rfl rfl ?_
    refine V.iload_n E dX5_mainPart_33 rfl rfl ?_
    refine V.callS E (c_X5_partOf G (scC x) 2 (hx.c) (by decide)) (bl [mdW G a (fla x) hi sl sv r o k t m e w tx cl hl tl sp rd]) [.int (nI (P (scC x) 0))] gX5_mainPart_X5_partOf rfl hd_X5_partOf ⟨⟨Nat.le_of_ble_eq_true rfl, Nat.le_of_ble_eq_true rfl⟩, Nat.le_of_ble_eq_true rfl, Nat.le_of_ble_eq_true rfl⟩ rfl (Nat.le_of_ble_eq_true rfl) rfl dX5_mainPart_34 (List.Perm.refl _) (kc' := 0) (ks' := 0) rfl rfl (rwI (ws' := (bl [mdW G a (fla x) hi sl sv r o k t m e w tx cl hl tl sp rd])) (List.Perm.refl _) ?_)
    refine V.icmp_ltN (tgt := 44) E (Nat.lt_trans (P_lt _ _) (by decide)) (Nat.lt_trans (P_lt _ _) (by decide)) dX5_mainPart_37 (by decide) (fun q_37 => ?_) (fun q_37 => ?_)
    · refine V.iload_n E dX5_mainPart_44 rfl rfl ?_
      refine V.topN (b := mainP (scC x)) (by unfold mainP; (repeat' split) <;> omega) ?_
      exact hend _ _ _ _ dX5_mainPart_45 (nrI _) ⟨rfl, rfl⟩
    · refine V.iconst (v := nI (0)) E dX5_mainPart_40 (by decide) ?_
      refine V.goto (tgt := 45) E dX5_mainPart_41 (by decide) ?_
      refine V.topN (b := mainP (scC x)) (by unfold mainP; (repeat' split) <;> omega) ?_
      exact hend _ _ _ _ dX5_mainPart_45 (nrI _) ⟨rfl, rfl⟩
  · refine V.iconst (v := nI (1)) E dX5_mainPart_21 (by decide) ?_
    refine V.goto (tgt := 26) E dX5_mainPart_22 (by decide) ?_
    refine V.istore_n (lv' := [some (.ref (a 0)), some (.int (nI (scC x))), some (.int (nI (1)))]) E dX5_mainPart_26 rfl (Nat.le_of_ble_eq_true rfl) rfl rfl ?_
    refine V.iload_n E dX5_mainPart_27 rfl rfl ?_
    refine V.iconst (v := nI (0)) E dX5_mainPart_28 (by decide) ?_
    refine V.callS E (c_X5_partOf G (scC x) 0 (hx.c) (by decide)) (bl [mdW G a (fla x) hi sl sv r o k t m e w tx cl hl tl sp rd]) [] gX5_mainPart_X5_partOf rfl hd_X5_partOf ⟨⟨Nat.le_of_ble_eq_true rfl, Nat.le_of_ble_eq_true rfl⟩, Nat.le_of_ble_eq_true rfl, Nat.le_of_ble_eq_true rfl⟩ rfl (Nat.le_of_ble_eq_true rfl) rfl dX5_mainPart_29 (List.Perm.refl _) (kc' := 0) (ks' := 0) rfl rfl (rwI (ws' := (bl [mdW G a (fla x) hi sl sv r o k t m e w tx cl hl tl sp rd])) (List.Perm.refl _) ?_)
    refine V.iload_n E dX5_mainPart_32 rfl rfl ?_
    refine V.iload_n E dX5_mainPart_33 rfl rfl ?_
    refine V.callS E (c_X5_partOf G (scC x) 1 (hx.c) (by decide)) (bl [mdW G a (fla x) hi sl sv r o k t m e w tx cl hl tl sp rd]) [.int (nI (P (scC x) 0))] gX5_mainPart_X5_partOf rfl hd_X5_partOf ⟨⟨Nat.le_of_ble_eq_true rfl, Nat.le_of_ble_eq_true rfl⟩, Nat.le_of_ble_eq_true rfl, Nat.le_of_ble_eq_true rfl⟩ rfl (Nat.le_of_ble_eq_true rfl) rfl dX5_mainPart_34 (List.Perm.refl _) (kc' := 0) (ks' := 0) rfl rfl (rwI (ws' := (bl [mdW G a (fla x) hi sl sv r o k t m e w tx cl hl tl sp rd])) (List.Perm.refl _) ?_)
    refine V.icmp_ltN (tgt := 44) E (Nat.lt_trans (P_lt _ _) (by decide)) (Nat.lt_trans (P_lt _ _) (by decide)) dX5_mainPart_37 (by decide) (fun q_37 => ?_) (fun q_37 => ?_)
    · refine V.iload_n E dX5_mainPart_44 rfl rfl ?_
      refine V.topN (b := mainP (scC x)) (by unfold mainP; (repeat' split) <;> omega) ?_
      exact hend _ _ _ _ dX5_mainPart_45 (nrI _) ⟨rfl, rfl⟩
    · refine V.iconst (v := nI (0)) E dX5_mainPart_40 (by decide) ?_
      refine V.goto (tgt := 45) E dX5_mainPart_41 (by decide) ?_
      refine V.topN (b := mainP (scC x)) (by unfold mainP; (repeat' split) <;> omega) ?_
      exact hend _ _ _ _ dX5_mainPart_45 (nrI _) ⟨rfl, rfl⟩
abbrev rm_c_X5_greater : Room := { frames := 0, cells := 0, slots := 0, locals := 0 }
theorem hd_X5_greater : yX5_greater.cls ≠ "java/lang/invoke/MethodHandle" ∧ yX5_greater.cls ≠ "java/lang/invoke/VarHandle" ∧ (parseMethodDescriptor yX5_greater.desc).map (fun d => d.parameters.length) = some 2 := by decide +kernel
set_option maxRecDepth 100000 in
set_option maxHeartbeats 8000000 in
theorem c_X5_greater (G : VC) (x : Int32) (y : Int32) : Ctr yX5_greater wsX5_greater rm_c_X5_greater G [.int (x), .int (y)] (bl []) (fun v9_ u9_ => u9_ = (bl []) ∧ v9_ = some (.int (if y < x then x else y))) := by
  refine Ctr.int (cc := cX5_greater) (maxL := 2) (ret := (some .int)) (lv0 := [some (.int (x)), some (.int (y))]) (by decide) rfl rfl rfl (Nat.le_of_ble_eq_true rfl) rfl (fun A X E hend => ?_)
  refine V.iload_n E dX5_greater_0 rfl rfl ?_
  refine V.iload_n E dX5_greater_1 rfl rfl ?_
  refine V.icmp_le (tgt := 9) E dX5_greater_2 (by decide) (fun q_2 => ?_) (fun q_2 => ?_)
  · refine V.iload_n E dX5_greater_9 rfl rfl ?_
    refine V.top (y := if y < x then x else y) (by first | rw [if_pos (by rw [i_lt]; rw [i_le] at q_2; omega)] | rw [if_neg (by rw [i_lt]; rw [i_le] at q_2; omega)]) ?_
    exact hend _ _ _ _ dX5_greater_10 (nrI _) ⟨rfl, rfl⟩
  · refine V.iload_n E dX5_greater_5 rfl rfl ?_
    refine V.goto (tgt := 10) E dX5_greater_6 (by decide) ?_
    refine V.top (y := if y < x then x else y) (by first | rw [if_pos (by rw [i_lt]; rw [i_le] at q_2; omega)] | rw [if_neg (by rw [i_lt]; rw [i_le] at q_2; omega)]) ?_
    exact hend _ _ _ _ dX5_greater_10 (nrI _) ⟨rfl, rfl⟩
theorem gr_max {a b : Nat} (ha : a < 2 ^ 31) (hb : b < 2 ^ 31) : (if nI b < nI a then nI a else nI b) = nI (max a b) := by
  by_cases h : b < a
  · rw [if_pos ((nI_ltI hb ha).mpr h), Nat.max_eq_left (by omega)]
  · rw [if_neg (fun e => h ((nI_ltI hb ha).mp e)), Nat.max_eq_right (by omega)]
theorem mm_gpos {a b : Nat} (ha : a < 2 ^ 30) (hb : b < 2 ^ 30) : (if nI a - nI b < nI 0 then nI 0 else nI a - nI b) = nI (a - b) := by
  have e := pk_sub_toInt ha hb
  have e0 : (nI 0).toInt = 0 := rfl
  by_cases h : a < b
  · rw [if_pos (by rw [i_lt, e, e0]; omega), show a - b = 0 by omega]
  · rw [if_neg (by rw [i_lt, e, e0]; omega), pk_sub (by omega)]
abbrev rm_c_X5_spillOf : Room := { frames := 1, cells := 0, slots := 0, locals := 21 }
theorem hd_X5_spillOf : yX5_spillOf.cls ≠ "java/lang/invoke/MethodHandle" ∧ yX5_spillOf.cls ≠ "java/lang/invoke/VarHandle" ∧ (parseMethodDescriptor yX5_spillOf.desc).map (fun d => d.parameters.length) = some 2 := by decide +kernel
set_option maxRecDepth 100000 in
set_option maxHeartbeats 8000000 in
theorem c_X5_spillOf (G : VC) (c : Nat) (k : Nat) (hc : c < 4096) (hk : k < 3) : Ctr yX5_spillOf wsX5_spillOf rm_c_X5_spillOf G [.int (nI (c)), .int (nI (k))] (bl []) (fun v9_ u9_ => u9_ = (bl []) ∧ v9_ = some (.int (nI (spl c k)))) := by
  refine Ctr.int (cc := cX5_spillOf) (maxL := 3) (ret := (some .int)) (lv0 := [some (.int (nI (c))), some (.int (nI (k))), none]) (by decide) rfl rfl rfl (Nat.le_of_ble_eq_true rfl) rfl (fun A X E hend => ?_)
  rcases (show k = 0 ∨ k = 1 ∨ k = 2 by omega) with rfl | rfl | rfl
  · refine V.iload_n E dX5_spillOf_0 rfl rfl ?_
    refine V.iload_n E dX5_spillOf_1 rfl rfl ?_
    refine V.if_neN (tgt := 9) E (by omega) dX5_spillOf_2 (by decide) (fun q_2 => absurd q_2 (by decide)) (fun q_2 => ?_)
    refine V.iconst (v := nI (1)) E dX5_spillOf_5 (by decide) ?_
    refine V.goto (tgt := 10) E dX5_spillOf_6 (by decide) ?_
    refine V.callS E (c_X5_partOf G c 1 (by omega) (by omega)) (bl []) [] gX5_spillOf_X5_partOf rfl hd_X5_partOf ⟨⟨Nat.le_of_ble_eq_true rfl, Nat.le_of_ble_eq_true rfl⟩, Nat.le_of_ble_eq_true rfl, Nat.le_of_ble_eq_true rfl⟩ rfl (Nat.le_of_ble_eq_true rfl) rfl dX5_spillOf_10 (List.Perm.refl _) (kc' := 0) (ks' := 0) rfl rfl (rwI (ws' := (bl [])) (List.Perm.refl _) ?_)
    refine V.iload_n E dX5_spillOf_13 rfl rfl ?_
    refine V.iload_n E dX5_spillOf_14 rfl rfl ?_
    refine V.iconst (v := nI (2)) E dX5_spillOf_15 (by decide) ?_
    refine V.icmp_neN (tgt := 23) E (by omega) (by omega) dX5_spillOf_16 (by decide) (fun q_16 => ?_) (fun q_16 => absurd q_16 (by decide))
    refine V.iconst (v := nI (2)) E dX5_spillOf_23 (by decide) ?_
    refine V.callS E (c_X5_partOf G c 2 (by omega) (by omega)) (bl []) [.int (nI (P c 1))] gX5_spillOf_X5_partOf rfl hd_X5_partOf ⟨⟨Nat.le_of_ble_eq_true rfl, Nat.le_of_ble_eq_true rfl⟩, Nat.le_of_ble_eq_true rfl, Nat.le_of_ble_eq_true rfl⟩ rfl (Nat.le_of_ble_eq_true rfl) rfl dX5_spillOf_24 (List.Perm.refl _) (kc' := 0) (ks' := 0) rfl rfl (rwI (ws' := (bl [])) (List.Perm.refl _) ?_)
    refine V.callS E (c_X5_greater G (nI (P c 1)) (nI (P c 2)) ) (bl []) [] gX5_spillOf_X5_greater rfl hd_X5_greater ⟨⟨Nat.le_of_ble_eq_true rfl, Nat.le_of_ble_eq_true rfl⟩, Nat.le_of_ble_eq_true rfl, Nat.le_of_ble_eq_true rfl⟩ rfl (Nat.le_of_ble_eq_true rfl) rfl dX5_spillOf_27 (List.Perm.refl _) (kc' := 0) (ks' := 0) rfl rfl (rwI (ws' := (bl [])) (List.Perm.refl _) ?_)
    refine V.top (y := nI (max (P c 1) (P c 2))) (gr_max (Nat.lt_trans (P_lt _ _) (by decide)) (Nat.lt_trans (P_lt _ _) (by decide))) ?_
    refine V.istore_n (lv' := [some (.int (nI (c))), some (.int (nI (0))), some (.int (nI (max (P c 1) (P c 2))))]) E dX5_spillOf_30 rfl (Nat.le_of_ble_eq_true rfl) rfl rfl ?_
    refine V.iconst (v := nI (0)) E dX5_spillOf_31 (by decide) ?_
    refine V.iload_n E dX5_spillOf_32 rfl rfl ?_
    refine V.iload_n E dX5_spillOf_33 rfl rfl ?_
    refine V.callS E (c_X5_partOf G c 0 (by omega) (by omega)) (bl []) [.int (nI (0))] gX5_spillOf_X5_partOf rfl hd_X5_partOf ⟨⟨Nat.le_of_ble_eq_true rfl, Nat.le_of_ble_eq_true rfl⟩, Nat.le_of_ble_eq_true rfl, Nat.le_of_ble_eq_true rfl⟩ rfl (Nat.le_of_ble_eq_true rfl) rfl dX5_spillOf_34 (List.Perm.refl _) (kc' := 0) (ks' := 0) rfl rfl (rwI (ws' := (bl [])) (List.Perm.refl _) ?_)
    refine V.iload_n E dX5_spillOf_37 rfl rfl ?_
    refine V.isub E dX5_spillOf_38  ?_
    refine V.callS E (c_X5_greater G (nI (0)) ((nI (P c 0)) - (nI (max (P c 1) (P c 2)))) ) (bl []) [] gX5_spillOf_X5_greater rfl hd_X5_greater ⟨⟨Nat.le_of_ble_eq_true rfl, Nat.le_of_ble_eq_true rfl⟩, Nat.le_of_ble_eq_true rfl, Nat.le_of_ble_eq_true rfl⟩ rfl (Nat.le_of_ble_eq_true rfl) rfl dX5_spillOf_39 (List.Perm.refl _) (kc' := 0) (ks' := 0) rfl rfl (rwI (ws' := (bl [])) (List.Perm.refl _) ?_)
    refine V.top (y := nI (spl c 0)) ((mm_gpos (Nat.lt_trans (P_lt _ _) (by decide)) (by have h1 := P_lt c 0; have h2 := P_lt c 1; have h3 := P_lt c 2; omega)).trans (congrArg nI (by show _ = P c 0 - max (P c ((0 + 1) % 3)) (P c ((0 + 2) % 3)); have e1 : (0 + 1) % 3 = 1 := rfl; have e2 : (0 + 2) % 3 = 2 := rfl; rw [e1, e2] <;> omega))) ?_
    exact hend _ _ _ _ dX5_spillOf_42 (nrI _) ⟨rfl, rfl⟩
  · refine V.iload_n E dX5_spillOf_0 rfl rfl ?_
    refine V.iload_n E dX5_spillOf_1 rfl rfl ?_
    refine V.if_neN (tgt := 9) E (by omega) dX5_spillOf_2 (by decide) (fun q_2 => ?_) (fun q_2 => absurd q_2 (by decide))
    refine V.iconst (v := nI (0)) E dX5_spillOf_9 (by decide) ?_
    refine V.callS E (c_X5_partOf G c 0 (by omega) (by omega)) (bl []) [] gX5_spillOf_X5_partOf rfl hd_X5_partOf ⟨⟨Nat.le_of_ble_eq_true rfl, Nat.le_of_ble_eq_true rfl⟩, Nat.le_of_ble_eq_true rfl, Nat.le_of_ble_eq_true rfl⟩ rfl (Nat.le_of_ble_eq_true rfl) rfl dX5_spillOf_10 (List.Perm.refl _) (kc' := 0) (ks' := 0) rfl rfl (rwI (ws' := (bl [])) (List.Perm.refl _) ?_)
    refine V.iload_n E dX5_spillOf_13 rfl rfl ?_
    refine V.iload_n E dX5_spillOf_14 rfl rfl ?_
    refine V.iconst (v := nI (2)) E dX5_spillOf_15 (by decide) ?_
    refine V.icmp_neN (tgt := 23) E (by omega) (by omega) dX5_spillOf_16 (by decide) (fun q_16 => ?_) (fun q_16 => absurd q_16 (by decide))
    refine V.iconst (v := nI (2)) E dX5_spillOf_23 (by decide) ?_
    refine V.callS E (c_X5_partOf G c 2 (by omega) (by omega)) (bl []) [.int (nI (P c 0))] gX5_spillOf_X5_partOf rfl hd_X5_partOf ⟨⟨Nat.le_of_ble_eq_true rfl, Nat.le_of_ble_eq_true rfl⟩, Nat.le_of_ble_eq_true rfl, Nat.le_of_ble_eq_true rfl⟩ rfl (Nat.le_of_ble_eq_true rfl) rfl dX5_spillOf_24 (List.Perm.refl _) (kc' := 0) (ks' := 0) rfl rfl (rwI (ws' := (bl [])) (List.Perm.refl _) ?_)
    refine V.callS E (c_X5_greater G (nI (P c 0)) (nI (P c 2)) ) (bl []) [] gX5_spillOf_X5_greater rfl hd_X5_greater ⟨⟨Nat.le_of_ble_eq_true rfl, Nat.le_of_ble_eq_true rfl⟩, Nat.le_of_ble_eq_true rfl, Nat.le_of_ble_eq_true rfl⟩ rfl (Nat.le_of_ble_eq_true rfl) rfl dX5_spillOf_27 (List.Perm.refl _) (kc' := 0) (ks' := 0) rfl rfl (rwI (ws' := (bl [])) (List.Perm.refl _) ?_)
    refine V.top (y := nI (max (P c 0) (P c 2))) (gr_max (Nat.lt_trans (P_lt _ _) (by decide)) (Nat.lt_trans (P_lt _ _) (by decide))) ?_
    refine V.istore_n (lv' := [some (.int (nI (c))), some (.int (nI (1))), some (.int (nI (max (P c 0) (P c 2))))]) E dX5_spillOf_30 rfl (Nat.le_of_ble_eq_true rfl) rfl rfl ?_
    refine V.iconst (v := nI (0)) E dX5_spillOf_31 (by decide) ?_
    refine V.iload_n E dX5_spillOf_32 rfl rfl ?_
    refine V.iload_n E dX5_spillOf_33 rfl rfl ?_
    refine V.callS E (c_X5_partOf G c 1 (by omega) (by omega)) (bl []) [.int (nI (0))] gX5_spillOf_X5_partOf rfl hd_X5_partOf ⟨⟨Nat.le_of_ble_eq_true rfl, Nat.le_of_ble_eq_true rfl⟩, Nat.le_of_ble_eq_true rfl, Nat.le_of_ble_eq_true rfl⟩ rfl (Nat.le_of_ble_eq_true rfl) rfl dX5_spillOf_34 (List.Perm.refl _) (kc' := 0) (ks' := 0) rfl rfl (rwI (ws' := (bl [])) (List.Perm.refl _) ?_)
    refine V.iload_n E dX5_spillOf_37 rfl rfl ?_
    refine V.isub E dX5_spillOf_38  ?_
    refine V.callS E (c_X5_greater G (nI (0)) ((nI (P c 1)) - (nI (max (P c 0) (P c 2)))) ) (bl []) [] gX5_spillOf_X5_greater rfl hd_X5_greater ⟨⟨Nat.le_of_ble_eq_true rfl, Nat.le_of_ble_eq_true rfl⟩, Nat.le_of_ble_eq_true rfl, Nat.le_of_ble_eq_true rfl⟩ rfl (Nat.le_of_ble_eq_true rfl) rfl dX5_spillOf_39 (List.Perm.refl _) (kc' := 0) (ks' := 0) rfl rfl (rwI (ws' := (bl [])) (List.Perm.refl _) ?_)
    refine V.top (y := nI (spl c 1)) ((mm_gpos (Nat.lt_trans (P_lt _ _) (by decide)) (by have h1 := P_lt c 0; have h2 := P_lt c 1; have h3 := P_lt c 2; omega)).trans (congrArg nI (by show _ = P c 1 - max (P c ((1 + 1) % 3)) (P c ((1 + 2) % 3)); have e1 : (1 + 1) % 3 = 2 := rfl; have e2 : (1 + 2) % 3 = 0 := rfl; rw [e1, e2] <;> omega))) ?_
    exact hend _ _ _ _ dX5_spillOf_42 (nrI _) ⟨rfl, rfl⟩
  · refine V.iload_n E dX5_spillOf_0 rfl rfl ?_
    refine V.iload_n E dX5_spillOf_1 rfl rfl ?_
    refine V.if_neN (tgt := 9) E (by omega) dX5_spillOf_2 (by decide) (fun q_2 => ?_) (fun q_2 => absurd q_2 (by decide))
    refine V.iconst (v := nI (0)) E dX5_spillOf_9 (by decide) ?_
    refine V.callS E (c_X5_partOf G c 0 (by omega) (by omega)) (bl []) [] gX5_spillOf_X5_partOf rfl hd_X5_partOf ⟨⟨Nat.le_of_ble_eq_true rfl, Nat.le_of_ble_eq_true rfl⟩, Nat.le_of_ble_eq_true rfl, Nat.le_of_ble_eq_true rfl⟩ rfl (Nat.le_of_ble_eq_true rfl) rfl dX5_spillOf_10 (List.Perm.refl _) (kc' := 0) (ks' := 0) rfl rfl (rwI (ws' := (bl [])) (List.Perm.refl _) ?_)
    refine V.iload_n E dX5_spillOf_13 rfl rfl ?_
    refine V.iload_n E dX5_spillOf_14 rfl rfl ?_
    refine V.iconst (v := nI (2)) E dX5_spillOf_15 (by decide) ?_
    refine V.icmp_neN (tgt := 23) E (by omega) (by omega) dX5_spillOf_16 (by decide) (fun q_16 => absurd q_16 (by decide)) (fun q_16 => ?_)
    refine V.iconst (v := nI (1)) E dX5_spillOf_19 (by decide) ?_
    refine V.goto (tgt := 24) E dX5_spillOf_20 (by decide) ?_
    refine V.callS E (c_X5_partOf G c 1 (by omega) (by omega)) (bl []) [.int (nI (P c 0))] gX5_spillOf_X5_partOf rfl hd_X5_partOf ⟨⟨Nat.le_of_ble_eq_true rfl, Nat.le_of_ble_eq_true rfl⟩, Nat.le_of_ble_eq_true rfl, Nat.le_of_ble_eq_true rfl⟩ rfl (Nat.le_of_ble_eq_true rfl) rfl dX5_spillOf_24 (List.Perm.refl _) (kc' := 0) (ks' := 0) rfl rfl (rwI (ws' := (bl [])) (List.Perm.refl _) ?_)
    refine V.callS E (c_X5_greater G (nI (P c 0)) (nI (P c 1)) ) (bl []) [] gX5_spillOf_X5_greater rfl hd_X5_greater ⟨⟨Nat.le_of_ble_eq_true rfl, Nat.le_of_ble_eq_true rfl⟩, Nat.le_of_ble_eq_true rfl, Nat.le_of_ble_eq_true rfl⟩ rfl (Nat.le_of_ble_eq_true rfl) rfl dX5_spillOf_27 (List.Perm.refl _) (kc' := 0) (ks' := 0) rfl rfl (rwI (ws' := (bl [])) (List.Perm.refl _) ?_)
    refine V.top (y := nI (max (P c 0) (P c 1))) (gr_max (Nat.lt_trans (P_lt _ _) (by decide)) (Nat.lt_trans (P_lt _ _) (by decide))) ?_
    refine V.istore_n (lv' := [some (.int (nI (c))), some (.int (nI (2))), some (.int (nI (max (P c 0) (P c 1))))]) E dX5_spillOf_30 rfl (Nat.le_of_ble_eq_true rfl) rfl rfl ?_
    refine V.iconst (v := nI (0)) E dX5_spillOf_31 (by decide) ?_
    refine V.iload_n E dX5_spillOf_32 rfl rfl ?_
    refine V.iload_n E dX5_spillOf_33 rfl rfl ?_
    refine V.callS E (c_X5_partOf G c 2 (by omega) (by omega)) (bl []) [.int (nI (0))] gX5_spillOf_X5_partOf rfl hd_X5_partOf ⟨⟨Nat.le_of_ble_eq_true rfl, Nat.le_of_ble_eq_true rfl⟩, Nat.le_of_ble_eq_true rfl, Nat.le_of_ble_eq_true rfl⟩ rfl (Nat.le_of_ble_eq_true rfl) rfl dX5_spillOf_34 (List.Perm.refl _) (kc' := 0) (ks' := 0) rfl rfl (rwI (ws' := (bl [])) (List.Perm.refl _) ?_)
    refine V.iload_n E dX5_spillOf_37 rfl rfl ?_
    refine V.isub E dX5_spillOf_38  ?_
    refine V.callS E (c_X5_greater G (nI (0)) ((nI (P c 2)) - (nI (max (P c 0) (P c 1)))) ) (bl []) [] gX5_spillOf_X5_greater rfl hd_X5_greater ⟨⟨Nat.le_of_ble_eq_true rfl, Nat.le_of_ble_eq_true rfl⟩, Nat.le_of_ble_eq_true rfl, Nat.le_of_ble_eq_true rfl⟩ rfl (Nat.le_of_ble_eq_true rfl) rfl dX5_spillOf_39 (List.Perm.refl _) (kc' := 0) (ks' := 0) rfl rfl (rwI (ws' := (bl [])) (List.Perm.refl _) ?_)
    refine V.top (y := nI (spl c 2)) ((mm_gpos (Nat.lt_trans (P_lt _ _) (by decide)) (by have h1 := P_lt c 0; have h2 := P_lt c 1; have h3 := P_lt c 2; omega)).trans (congrArg nI (by show _ = P c 2 - max (P c ((2 + 1) % 3)) (P c ((2 + 2) % 3)); have e1 : (2 + 1) % 3 = 0 := rfl; have e2 : (2 + 2) % 3 = 1 := rfl; rw [e1, e2] <;> omega))) ?_
    exact hend _ _ _ _ dX5_spillOf_42 (nrI _) ⟨rfl, rfl⟩
abbrev rm_c_X5_beside : Room := { frames := 1, cells := 0, slots := 0, locals := 25 }
theorem hd_X5_beside : yX5_beside.cls ≠ "java/lang/invoke/MethodHandle" ∧ yX5_beside.cls ≠ "java/lang/invoke/VarHandle" ∧ (parseMethodDescriptor yX5_beside.desc).map (fun d => d.parameters.length) = some 2 := by decide +kernel
set_option maxRecDepth 100000 in
set_option maxHeartbeats 8000000 in
theorem c_X5_beside (G : VC) (p : Nat) (w : Nat) (hp : p < 48) (hw : w < 4) : Ctr yX5_beside wsX5_beside rm_c_X5_beside G [.int (nI (p)), .int (nI (w))] (bl []) (fun v9_ u9_ => u9_ = (bl []) ∧ v9_ = some (.int (mbI p w))) := by
  refine Ctr.int (cc := cX5_beside) (maxL := 4) (ret := (some .int)) (lv0 := [some (.int (nI (p))), some (.int (nI (w))), none, none]) (by decide) rfl rfl rfl (Nat.le_of_ble_eq_true rfl) rfl (fun A X E hend => ?_)
  rcases (show w = 0 ∨ w = 1 ∨ w = 2 ∨ w = 3 by omega) with rfl | rfl | rfl | rfl
  · refine V.iload_n E dX5_beside_0 rfl rfl ?_
    refine V.bipush (v := nI (8)) E dX5_beside_1 (by decide) ?_
    refine V.iremN E (by omega) (by omega) (by omega) dX5_beside_3 ?_
    refine V.iload_n E dX5_beside_4 rfl rfl ?_
    refine V.if_neN (tgt := 12) E (by omega) dX5_beside_5 (by decide) (fun q_5 => absurd q_5 (by decide)) (fun q_5 => ?_)
    refine V.iconst (v := (-1 : Int32)) E dX5_beside_8 (by decide) ?_
    refine V.goto (tgt := 22) E dX5_beside_9 (by decide) ?_
    refine V.iadd E dX5_beside_22  ?_
    refine V.istore_n (lv' := [some (.int (nI (p))), some (.int (nI (0))), some (.int ((nI (p % 8)) + ((-1 : Int32)))), none]) E dX5_beside_23 rfl (Nat.le_of_ble_eq_true rfl) rfl rfl ?_
    refine V.iload_n E dX5_beside_24 rfl rfl ?_
    refine V.bipush (v := nI (8)) E dX5_beside_25 (by decide) ?_
    refine V.idivN E (by omega) (by omega) (by omega) dX5_beside_27 ?_
    refine V.iload_n E dX5_beside_28 rfl rfl ?_
    refine V.iconst (v := nI (2)) E dX5_beside_29 (by decide) ?_
    refine V.icmp_neN (tgt := 37) E (by omega) (by omega) dX5_beside_30 (by decide) (fun q_30 => ?_) (fun q_30 => absurd q_30 (by decide))
    refine V.iload_n E dX5_beside_37 rfl rfl ?_
    refine V.iconst (v := nI (3)) E dX5_beside_38 (by decide) ?_
    refine V.icmp_neN (tgt := 46) E (by omega) (by omega) dX5_beside_39 (by decide) (fun q_39 => ?_) (fun q_39 => absurd q_39 (by decide))
    refine V.iconst (v := nI (0)) E dX5_beside_46 (by decide) ?_
    refine V.iaddN E  dX5_beside_47 ?_
    refine V.istore_n (lv' := [some (.int (nI (p))), some (.int (nI (0))), some (.int ((nI (p % 8)) + ((-1 : Int32)))), some (.int (nI ((p / 8) + 0)))]) E dX5_beside_48 rfl (Nat.le_of_ble_eq_true rfl) rfl rfl ?_
    refine V.iload_n E dX5_beside_49 rfl rfl ?_
    refine V.i2l E dX5_beside_50 rfl ?_
    refine V.lconst (v := 0) E dX5_beside_51 (by decide) ?_
    refine V.ldc2 (v := 7) E (by decide +kernel) dX5_beside_52 ?_
    refine V.callS E (c_X5_in G (((nI (p % 8)) + ((-1 : Int32))).toInt64) ((0 : Int64)) ((7 : Int64)) ) (bl []) [] gX5_beside_X5_in rfl hd_X5_in ⟨⟨Nat.le_of_ble_eq_true rfl, Nat.le_of_ble_eq_true rfl⟩, Nat.le_of_ble_eq_true rfl, Nat.le_of_ble_eq_true rfl⟩ rfl (Nat.le_of_ble_eq_true rfl) rfl dX5_beside_55 (List.Perm.refl _) (kc' := 0) (ks' := 0) rfl rfl (rwI (ws' := (bl [])) (List.Perm.refl _) ?_)
    refine V.topN (b := bN (okI 8 ((nI (p % 8)) + ((-1 : Int32))))) (congrArg bN (inL_ok _ (n := 7) (by decide))) ?_
    refine V.if_eqB (tgt := 82) E dX5_beside_58 (by decide) (fun q_58 => ?_) (fun q_58 => ?_)
    · refine V.bipush (v := (-6 : Int32)) E dX5_beside_82 (by decide) ?_
      refine V.top (y := mbI p 0) ((mbI_f (p := p) (w := 0) (decide_eq_false (fun e => absurd ((okI_m1 (a := p % 8) (n := 8) (by omega) (by decide)).trans (decide_eq_true (by have h9 : 0 < p % 8 := e; omega))) (by rw [q_58]; decide)))).symm) ?_
      exact hend _ _ _ _ dX5_beside_84 (nrI _) ⟨rfl, rfl⟩
    · have hz_ : 0 < p % 8 := of_decide_eq_true ((okI_m1 (by omega) (by decide)).symm.trans q_58)
      refine V.loc (y := nI (p % 8 - 1)) (lv' := [some (.int (nI (p))), some (.int (nI (0))), some (.int (nI (p % 8 - 1))), some (.int (nI ((p / 8) + 0)))]) 2 (m1N hz_) rfl rfl ?_
      refine V.iload_n E dX5_beside_61 rfl rfl ?_
      refine V.i2l E dX5_beside_62 rfl ?_
      refine V.lconst (v := 0) E dX5_beside_63 (by decide) ?_
      refine V.ldc2 (v := 5) E (by decide +kernel) dX5_beside_64 ?_
      refine V.callS E (c_X5_in G ((nI ((p / 8) + 0)).toInt64) ((0 : Int64)) ((5 : Int64)) ) (bl []) [] gX5_beside_X5_in rfl hd_X5_in ⟨⟨Nat.le_of_ble_eq_true rfl, Nat.le_of_ble_eq_true rfl⟩, Nat.le_of_ble_eq_true rfl, Nat.le_of_ble_eq_true rfl⟩ rfl (Nat.le_of_ble_eq_true rfl) rfl dX5_beside_67 (List.Perm.refl _) (kc' := 0) (ks' := 0) rfl rfl (rwI (ws' := (bl [])) (List.Perm.refl _) ?_)
      refine V.topN (b := bN (okI 6 (nI ((p / 8) + 0)))) (congrArg bN (inL_ok _ (n := 5) (by decide))) ?_
      refine V.if_eqB (tgt := 82) E dX5_beside_70 (by decide) (fun q_70 => ?_) (fun q_70 => ?_)
      · refine V.bipush (v := (-6 : Int32)) E dX5_beside_82 (by decide) ?_
        refine V.top (y := mbI p 0) (absurd (okI_n (n := 6) (j := p / 8 + 0) (by omega) (by omega)) (by rw [q_70]; decide)) ?_
        exact hend _ _ _ _ dX5_beside_84 (nrI _) ⟨rfl, rfl⟩
      · refine V.bipush (v := nI (8)) E dX5_beside_73 (by decide) ?_
        refine V.iload_n E dX5_beside_75 rfl rfl ?_
        refine V.imulN E  dX5_beside_76 ?_
        refine V.iload_n E dX5_beside_77 rfl rfl ?_
        refine V.iaddN E  dX5_beside_78 ?_
        refine V.goto (tgt := 84) E dX5_beside_79 (by decide) ?_
        refine V.top (y := mbI p 0) ((congrArg nI (by show _ = nbP p (wy 0); show _ = p - 1; omega)).trans (mbI_t (w := 0) (decide_eq_true hz_)).symm) ?_
        exact hend _ _ _ _ dX5_beside_84 (nrI _) ⟨rfl, rfl⟩
  · refine V.iload_n E dX5_beside_0 rfl rfl ?_
    refine V.bipush (v := nI (8)) E dX5_beside_1 (by decide) ?_
    refine V.iremN E (by omega) (by omega) (by omega) dX5_beside_3 ?_
    refine V.iload_n E dX5_beside_4 rfl rfl ?_
    refine V.if_neN (tgt := 12) E (by omega) dX5_beside_5 (by decide) (fun q_5 => ?_) (fun q_5 => absurd q_5 (by decide))
    refine V.iload_n E dX5_beside_12 rfl rfl ?_
    refine V.iconst (v := nI (1)) E dX5_beside_13 (by decide) ?_
    refine V.icmp_neN (tgt := 21) E (by omega) (by omega) dX5_beside_14 (by decide) (fun q_14 => absurd q_14 (by decide)) (fun q_14 => ?_)
    refine V.iconst (v := nI (1)) E dX5_beside_17 (by decide) ?_
    refine V.goto (tgt := 22) E dX5_beside_18 (by decide) ?_
    refine V.iaddN E  dX5_beside_22 ?_
    refine V.istore_n (lv' := [some (.int (nI (p))), some (.int (nI (1))), some (.int (nI ((p % 8) + 1))), none]) E dX5_beside_23 rfl (Nat.le_of_ble_eq_true rfl) rfl rfl ?_
    refine V.iload_n E dX5_beside_24 rfl rfl ?_
    refine V.bipush (v := nI (8)) E dX5_beside_25 (by decide) ?_
    refine V.idivN E (by omega) (by omega) (by omega) dX5_beside_27 ?_
    refine V.iload_n E dX5_beside_28 rfl rfl ?_
    refine V.iconst (v := nI (2)) E dX5_beside_29 (by decide) ?_
    refine V.icmp_neN (tgt := 37) E (by omega) (by omega) dX5_beside_30 (by decide) (fun q_30 => ?_) (fun q_30 => absurd q_30 (by decide))
    refine V.iload_n E dX5_beside_37 rfl rfl ?_
    refine V.iconst (v := nI (3)) E dX5_beside_38 (by decide) ?_
    refine V.icmp_neN (tgt := 46) E (by omega) (by omega) dX5_beside_39 (by decide) (fun q_39 => ?_) (fun q_39 => absurd q_39 (by decide))
    refine V.iconst (v := nI (0)) E dX5_beside_46 (by decide) ?_
    refine V.iaddN E  dX5_beside_47 ?_
    refine V.istore_n (lv' := [some (.int (nI (p))), some (.int (nI (1))), some (.int (nI ((p % 8) + 1))), some (.int (nI ((p / 8) + 0)))]) E dX5_beside_48 rfl (Nat.le_of_ble_eq_true rfl) rfl rfl ?_
    refine V.iload_n E dX5_beside_49 rfl rfl ?_
    refine V.i2l E dX5_beside_50 rfl ?_
    refine V.lconst (v := 0) E dX5_beside_51 (by decide) ?_
    refine V.ldc2 (v := 7) E (by decide +kernel) dX5_beside_52 ?_
    refine V.callS E (c_X5_in G ((nI ((p % 8) + 1)).toInt64) ((0 : Int64)) ((7 : Int64)) ) (bl []) [] gX5_beside_X5_in rfl hd_X5_in ⟨⟨Nat.le_of_ble_eq_true rfl, Nat.le_of_ble_eq_true rfl⟩, Nat.le_of_ble_eq_true rfl, Nat.le_of_ble_eq_true rfl⟩ rfl (Nat.le_of_ble_eq_true rfl) rfl dX5_beside_55 (List.Perm.refl _) (kc' := 0) (ks' := 0) rfl rfl (rwI (ws' := (bl [])) (List.Perm.refl _) ?_)
    refine V.topN (b := bN (okI 8 (nI ((p % 8) + 1)))) (congrArg bN (inL_ok _ (n := 7) (by decide))) ?_
    refine V.if_eqB (tgt := 82) E dX5_beside_58 (by decide) (fun q_58 => ?_) (fun q_58 => ?_)
    · refine V.bipush (v := (-6 : Int32)) E dX5_beside_82 (by decide) ?_
      refine V.top (y := mbI p 1) ((mbI_f (p := p) (w := 1) (decide_eq_false (fun e => absurd (okI_n (n := 8) (j := p % 8 + 1) (by have h9 : p % 8 < 7 := e; omega) (by omega)) (by rw [q_58]; decide)))).symm) ?_
      exact hend _ _ _ _ dX5_beside_84 (nrI _) ⟨rfl, rfl⟩
    · refine V.iload_n E dX5_beside_61 rfl rfl ?_
      refine V.i2l E dX5_beside_62 rfl ?_
      refine V.lconst (v := 0) E dX5_beside_63 (by decide) ?_
      refine V.ldc2 (v := 5) E (by decide +kernel) dX5_beside_64 ?_
      refine V.callS E (c_X5_in G ((nI ((p / 8) + 0)).toInt64) ((0 : Int64)) ((5 : Int64)) ) (bl []) [] gX5_beside_X5_in rfl hd_X5_in ⟨⟨Nat.le_of_ble_eq_true rfl, Nat.le_of_ble_eq_true rfl⟩, Nat.le_of_ble_eq_true rfl, Nat.le_of_ble_eq_true rfl⟩ rfl (Nat.le_of_ble_eq_true rfl) rfl dX5_beside_67 (List.Perm.refl _) (kc' := 0) (ks' := 0) rfl rfl (rwI (ws' := (bl [])) (List.Perm.refl _) ?_)
      refine V.topN (b := bN (okI 6 (nI ((p / 8) + 0)))) (congrArg bN (inL_ok _ (n := 5) (by decide))) ?_
      refine V.if_eqB (tgt := 82) E dX5_beside_70 (by decide) (fun q_70 => ?_) (fun q_70 => ?_)
      · refine V.bipush (v := (-6 : Int32)) E dX5_beside_82 (by decide) ?_
        refine V.top (y := mbI p 1) (absurd (okI_n (n := 6) (j := p / 8 + 0) (by omega) (by omega)) (by rw [q_70]; decide)) ?_
        exact hend _ _ _ _ dX5_beside_84 (nrI _) ⟨rfl, rfl⟩
      · refine V.bipush (v := nI (8)) E dX5_beside_73 (by decide) ?_
        refine V.iload_n E dX5_beside_75 rfl rfl ?_
        refine V.imulN E  dX5_beside_76 ?_
        refine V.iload_n E dX5_beside_77 rfl rfl ?_
        refine V.iaddN E  dX5_beside_78 ?_
        refine V.goto (tgt := 84) E dX5_beside_79 (by decide) ?_
        refine V.top (y := mbI p 1) ((congrArg nI (by show _ = nbP p (wy 1); show _ = p + 1; omega)).trans (mbI_t (w := 1) (decide_eq_true (by have h9 : p % 8 + 1 < 8 := by { rcases Nat.lt_or_ge (p % 8 + 1) 8 with h | h; exact h; exact absurd (okI_nn (n := 8) h (by omega)) (by rw [q_58]; decide) }; omega))).symm) ?_
        exact hend _ _ _ _ dX5_beside_84 (nrI _) ⟨rfl, rfl⟩
  · refine V.iload_n E dX5_beside_0 rfl rfl ?_
    refine V.bipush (v := nI (8)) E dX5_beside_1 (by decide) ?_
    refine V.iremN E (by omega) (by omega) (by omega) dX5_beside_3 ?_
    refine V.iload_n E dX5_beside_4 rfl rfl ?_
    refine V.if_neN (tgt := 12) E (by omega) dX5_beside_5 (by decide) (fun q_5 => ?_) (fun q_5 => absurd q_5 (by decide))
    refine V.iload_n E dX5_beside_12 rfl rfl ?_
    refine V.iconst (v := nI (1)) E dX5_beside_13 (by decide) ?_
    refine V.icmp_neN (tgt := 21) E (by omega) (by omega) dX5_beside_14 (by decide) (fun q_14 => ?_) (fun q_14 => absurd q_14 (by decide))
    refine V.iconst (v := nI (0)) E dX5_beside_21 (by decide) ?_
    refine V.iaddN E  dX5_beside_22 ?_
    refine V.istore_n (lv' := [some (.int (nI (p))), some (.int (nI (2))), some (.int (nI ((p % 8) + 0))), none]) E dX5_beside_23 rfl (Nat.le_of_ble_eq_true rfl) rfl rfl ?_
    refine V.iload_n E dX5_beside_24 rfl rfl ?_
    refine V.bipush (v := nI (8)) E dX5_beside_25 (by decide) ?_
    refine V.idivN E (by omega) (by omega) (by omega) dX5_beside_27 ?_
    refine V.iload_n E dX5_beside_28 rfl rfl ?_
    refine V.iconst (v := nI (2)) E dX5_beside_29 (by decide) ?_
    refine V.icmp_neN (tgt := 37) E (by omega) (by omega) dX5_beside_30 (by decide) (fun q_30 => absurd q_30 (by decide)) (fun q_30 => ?_)
    refine V.iconst (v := (-1 : Int32)) E dX5_beside_33 (by decide) ?_
    refine V.goto (tgt := 47) E dX5_beside_34 (by decide) ?_
    refine V.iadd E dX5_beside_47  ?_
    refine V.istore_n (lv' := [some (.int (nI (p))), some (.int (nI (2))), some (.int (nI ((p % 8) + 0))), some (.int ((nI (p / 8)) + ((-1 : Int32))))]) E dX5_beside_48 rfl (Nat.le_of_ble_eq_true rfl) rfl rfl ?_
    refine V.iload_n E dX5_beside_49 rfl rfl ?_
    refine V.i2l E dX5_beside_50 rfl ?_
    refine V.lconst (v := 0) E dX5_beside_51 (by decide) ?_
    refine V.ldc2 (v := 7) E (by decide +kernel) dX5_beside_52 ?_
    refine V.callS E (c_X5_in G ((nI ((p % 8) + 0)).toInt64) ((0 : Int64)) ((7 : Int64)) ) (bl []) [] gX5_beside_X5_in rfl hd_X5_in ⟨⟨Nat.le_of_ble_eq_true rfl, Nat.le_of_ble_eq_true rfl⟩, Nat.le_of_ble_eq_true rfl, Nat.le_of_ble_eq_true rfl⟩ rfl (Nat.le_of_ble_eq_true rfl) rfl dX5_beside_55 (List.Perm.refl _) (kc' := 0) (ks' := 0) rfl rfl (rwI (ws' := (bl [])) (List.Perm.refl _) ?_)
    refine V.topN (b := bN (okI 8 (nI ((p % 8) + 0)))) (congrArg bN (inL_ok _ (n := 7) (by decide))) ?_
    refine V.if_eqB (tgt := 82) E dX5_beside_58 (by decide) (fun q_58 => ?_) (fun q_58 => ?_)
    · refine V.bipush (v := (-6 : Int32)) E dX5_beside_82 (by decide) ?_
      refine V.top (y := mbI p 2) (absurd (okI_n (n := 8) (j := p % 8 + 0) (by omega) (by omega)) (by rw [q_58]; decide)) ?_
      exact hend _ _ _ _ dX5_beside_84 (nrI _) ⟨rfl, rfl⟩
    · refine V.iload_n E dX5_beside_61 rfl rfl ?_
      refine V.i2l E dX5_beside_62 rfl ?_
      refine V.lconst (v := 0) E dX5_beside_63 (by decide) ?_
      refine V.ldc2 (v := 5) E (by decide +kernel) dX5_beside_64 ?_
      refine V.callS E (c_X5_in G (((nI (p / 8)) + ((-1 : Int32))).toInt64) ((0 : Int64)) ((5 : Int64)) ) (bl []) [] gX5_beside_X5_in rfl hd_X5_in ⟨⟨Nat.le_of_ble_eq_true rfl, Nat.le_of_ble_eq_true rfl⟩, Nat.le_of_ble_eq_true rfl, Nat.le_of_ble_eq_true rfl⟩ rfl (Nat.le_of_ble_eq_true rfl) rfl dX5_beside_67 (List.Perm.refl _) (kc' := 0) (ks' := 0) rfl rfl (rwI (ws' := (bl [])) (List.Perm.refl _) ?_)
      refine V.topN (b := bN (okI 6 ((nI (p / 8)) + ((-1 : Int32))))) (congrArg bN (inL_ok _ (n := 5) (by decide))) ?_
      refine V.if_eqB (tgt := 82) E dX5_beside_70 (by decide) (fun q_70 => ?_) (fun q_70 => ?_)
      · refine V.bipush (v := (-6 : Int32)) E dX5_beside_82 (by decide) ?_
        refine V.top (y := mbI p 2) ((mbI_f (p := p) (w := 2) (decide_eq_false (fun e => absurd ((okI_m1 (a := p / 8) (n := 6) (by omega) (by decide)).trans (decide_eq_true (by have h9 : 8 ≤ p := e; omega))) (by rw [q_70]; decide)))).symm) ?_
        exact hend _ _ _ _ dX5_beside_84 (nrI _) ⟨rfl, rfl⟩
      · have hz_ : 0 < p / 8 := of_decide_eq_true ((okI_m1 (by omega) (by decide)).symm.trans q_70)
        refine V.loc (y := nI (p / 8 - 1)) (lv' := [some (.int (nI (p))), some (.int (nI (2))), some (.int (nI ((p % 8) + 0))), some (.int (nI (p / 8 - 1)))]) 3 (m1N hz_) rfl rfl ?_
        refine V.bipush (v := nI (8)) E dX5_beside_73 (by decide) ?_
        refine V.iload_n E dX5_beside_75 rfl rfl ?_
        refine V.imulN E  dX5_beside_76 ?_
        refine V.iload_n E dX5_beside_77 rfl rfl ?_
        refine V.iaddN E  dX5_beside_78 ?_
        refine V.goto (tgt := 84) E dX5_beside_79 (by decide) ?_
        refine V.top (y := mbI p 2) ((congrArg nI (by show _ = nbP p (wy 2); show _ = p - 8; omega)).trans (mbI_t (w := 2) (decide_eq_true (by omega))).symm) ?_
        exact hend _ _ _ _ dX5_beside_84 (nrI _) ⟨rfl, rfl⟩
  · refine V.iload_n E dX5_beside_0 rfl rfl ?_
    refine V.bipush (v := nI (8)) E dX5_beside_1 (by decide) ?_
    refine V.iremN E (by omega) (by omega) (by omega) dX5_beside_3 ?_
    refine V.iload_n E dX5_beside_4 rfl rfl ?_
    refine V.if_neN (tgt := 12) E (by omega) dX5_beside_5 (by decide) (fun q_5 => ?_) (fun q_5 => absurd q_5 (by decide))
    refine V.iload_n E dX5_beside_12 rfl rfl ?_
    refine V.iconst (v := nI (1)) E dX5_beside_13 (by decide) ?_
    refine V.icmp_neN (tgt := 21) E (by omega) (by omega) dX5_beside_14 (by decide) (fun q_14 => ?_) (fun q_14 => absurd q_14 (by decide))
    refine V.iconst (v := nI (0)) E dX5_beside_21 (by decide) ?_
    refine V.iaddN E  dX5_beside_22 ?_
    refine V.istore_n (lv' := [some (.int (nI (p))), some (.int (nI (3))), some (.int (nI ((p % 8) + 0))), none]) E dX5_beside_23 rfl (Nat.le_of_ble_eq_true rfl) rfl rfl ?_
    refine V.iload_n E dX5_beside_24 rfl rfl ?_
    refine V.bipush (v := nI (8)) E dX5_beside_25 (by decide) ?_
    refine V.idivN E (by omega) (by omega) (by omega) dX5_beside_27 ?_
    refine V.iload_n E dX5_beside_28 rfl rfl ?_
    refine V.iconst (v := nI (2)) E dX5_beside_29 (by decide) ?_
    refine V.icmp_neN (tgt := 37) E (by omega) (by omega) dX5_beside_30 (by decide) (fun q_30 => ?_) (fun q_30 => absurd q_30 (by decide))
    refine V.iload_n E dX5_beside_37 rfl rfl ?_
    refine V.iconst (v := nI (3)) E dX5_beside_38 (by decide) ?_
    refine V.icmp_neN (tgt := 46) E (by omega) (by omega) dX5_beside_39 (by decide) (fun q_39 => absurd q_39 (by decide)) (fun q_39 => ?_)
    refine V.iconst (v := nI (1)) E dX5_beside_42 (by decide) ?_
    refine V.goto (tgt := 47) E dX5_beside_43 (by decide) ?_
    refine V.iaddN E  dX5_beside_47 ?_
    refine V.istore_n (lv' := [some (.int (nI (p))), some (.int (nI (3))), some (.int (nI ((p % 8) + 0))), some (.int (nI ((p / 8) + 1)))]) E dX5_beside_48 rfl (Nat.le_of_ble_eq_true rfl) rfl rfl ?_
    refine V.iload_n E dX5_beside_49 rfl rfl ?_
    refine V.i2l E dX5_beside_50 rfl ?_
    refine V.lconst (v := 0) E dX5_beside_51 (by decide) ?_
    refine V.ldc2 (v := 7) E (by decide +kernel) dX5_beside_52 ?_
    refine V.callS E (c_X5_in G ((nI ((p % 8) + 0)).toInt64) ((0 : Int64)) ((7 : Int64)) ) (bl []) [] gX5_beside_X5_in rfl hd_X5_in ⟨⟨Nat.le_of_ble_eq_true rfl, Nat.le_of_ble_eq_true rfl⟩, Nat.le_of_ble_eq_true rfl, Nat.le_of_ble_eq_true rfl⟩ rfl (Nat.le_of_ble_eq_true rfl) rfl dX5_beside_55 (List.Perm.refl _) (kc' := 0) (ks' := 0) rfl rfl (rwI (ws' := (bl [])) (List.Perm.refl _) ?_)
    refine V.topN (b := bN (okI 8 (nI ((p % 8) + 0)))) (congrArg bN (inL_ok _ (n := 7) (by decide))) ?_
    refine V.if_eqB (tgt := 82) E dX5_beside_58 (by decide) (fun q_58 => ?_) (fun q_58 => ?_)
    · refine V.bipush (v := (-6 : Int32)) E dX5_beside_82 (by decide) ?_
      refine V.top (y := mbI p 3) (absurd (okI_n (n := 8) (j := p % 8 + 0) (by omega) (by omega)) (by rw [q_58]; decide)) ?_
      exact hend _ _ _ _ dX5_beside_84 (nrI _) ⟨rfl, rfl⟩
    · refine V.iload_n E dX5_beside_61 rfl rfl ?_
      refine V.i2l E dX5_beside_62 rfl ?_
      refine V.lconst (v := 0) E dX5_beside_63 (by decide) ?_
      refine V.ldc2 (v := 5) E (by decide +kernel) dX5_beside_64 ?_
      refine V.callS E (c_X5_in G ((nI ((p / 8) + 1)).toInt64) ((0 : Int64)) ((5 : Int64)) ) (bl []) [] gX5_beside_X5_in rfl hd_X5_in ⟨⟨Nat.le_of_ble_eq_true rfl, Nat.le_of_ble_eq_true rfl⟩, Nat.le_of_ble_eq_true rfl, Nat.le_of_ble_eq_true rfl⟩ rfl (Nat.le_of_ble_eq_true rfl) rfl dX5_beside_67 (List.Perm.refl _) (kc' := 0) (ks' := 0) rfl rfl (rwI (ws' := (bl [])) (List.Perm.refl _) ?_)
      refine V.topN (b := bN (okI 6 (nI ((p / 8) + 1)))) (congrArg bN (inL_ok _ (n := 5) (by decide))) ?_
      refine V.if_eqB (tgt := 82) E dX5_beside_70 (by decide) (fun q_70 => ?_) (fun q_70 => ?_)
      · refine V.bipush (v := (-6 : Int32)) E dX5_beside_82 (by decide) ?_
        refine V.top (y := mbI p 3) ((mbI_f (p := p) (w := 3) (decide_eq_false (fun e => absurd (okI_n (n := 6) (j := p / 8 + 1) (by have h9 : p < 40 := e; omega) (by omega)) (by rw [q_70]; decide)))).symm) ?_
        exact hend _ _ _ _ dX5_beside_84 (nrI _) ⟨rfl, rfl⟩
      · refine V.bipush (v := nI (8)) E dX5_beside_73 (by decide) ?_
        refine V.iload_n E dX5_beside_75 rfl rfl ?_
        refine V.imulN E  dX5_beside_76 ?_
        refine V.iload_n E dX5_beside_77 rfl rfl ?_
        refine V.iaddN E  dX5_beside_78 ?_
        refine V.goto (tgt := 84) E dX5_beside_79 (by decide) ?_
        refine V.top (y := mbI p 3) ((congrArg nI (by show _ = nbP p (wy 3); show _ = p + 8; omega)).trans (mbI_t (w := 3) (decide_eq_true (by have h9 : p / 8 + 1 < 6 := by { rcases Nat.lt_or_ge (p / 8 + 1) 6 with h | h; exact h; exact absurd (okI_nn (n := 6) h (by omega)) (by rw [q_70]; decide) }; omega))).symm) ?_
        exact hend _ _ _ _ dX5_beside_84 (nrI _) ⟨rfl, rfl⟩
abbrev rm_c_X5_isEdge : Room := { frames := 0, cells := 0, slots := 0, locals := 0 }
theorem hd_X5_isEdge : yX5_isEdge.cls ≠ "java/lang/invoke/MethodHandle" ∧ yX5_isEdge.cls ≠ "java/lang/invoke/VarHandle" ∧ (parseMethodDescriptor yX5_isEdge.desc).map (fun d => d.parameters.length) = some 1 := by decide +kernel
set_option maxRecDepth 100000 in
set_option maxHeartbeats 8000000 in
theorem c_X5_isEdge (G : VC) (p : Nat) (hp : p < 48) : Ctr yX5_isEdge wsX5_isEdge rm_c_X5_isEdge G [.int (nI (p))] (bl []) (fun v9_ u9_ => u9_ = (bl []) ∧ v9_ = some (.int (nI (bN (edge p))))) := by
  refine Ctr.int (cc := cX5_isEdge) (maxL := 1) (ret := (some .boolean)) (lv0 := [some (.int (nI (p)))]) (by decide) rfl rfl rfl (Nat.le_of_ble_eq_true rfl) rfl (fun A X E hend => ?_)
  refine V.iload_n E dX5_isEdge_0 rfl rfl ?_
  refine V.bipush (v := nI (8)) E dX5_isEdge_1 (by decide) ?_
  refine V.iremN E (by omega) (by omega) (by omega) dX5_isEdge_3 ?_
  refine V.if_eqN (tgt := 28) E (by omega) dX5_isEdge_4 (by decide) (fun q_4 => ?_) (fun q_4 => ?_)
  · refine V.iconst (v := nI (1)) E dX5_isEdge_28 (by decide) ?_
    refine V.goto (tgt := 33) E dX5_isEdge_29 (by decide) ?_
    refine V.topN (b := bN (edge p)) (by first | exact (bN_t (decide_eq_true (by omega))).symm | exact (bN_f (decide_eq_false (by omega))).symm) ?_
    exact hend _ _ _ _ dX5_isEdge_33 (nrB _) ⟨rfl, rfl⟩
  · refine V.iload_n E dX5_isEdge_7 rfl rfl ?_
    refine V.bipush (v := nI (8)) E dX5_isEdge_8 (by decide) ?_
    refine V.iremN E (by omega) (by omega) (by omega) dX5_isEdge_10 ?_
    refine V.bipush (v := nI (7)) E dX5_isEdge_11 (by decide) ?_
    refine V.icmp_eqN (tgt := 28) E (by omega) (by omega) dX5_isEdge_13 (by decide) (fun q_13 => ?_) (fun q_13 => ?_)
    · refine V.iconst (v := nI (1)) E dX5_isEdge_28 (by decide) ?_
      refine V.goto (tgt := 33) E dX5_isEdge_29 (by decide) ?_
      refine V.topN (b := bN (edge p)) (by first | exact (bN_t (decide_eq_true (by omega))).symm | exact (bN_f (decide_eq_false (by omega))).symm) ?_
      exact hend _ _ _ _ dX5_isEdge_33 (nrB _) ⟨rfl, rfl⟩
    · refine V.iload_n E dX5_isEdge_16 rfl rfl ?_
      refine V.bipush (v := nI (8)) E dX5_isEdge_17 (by decide) ?_
      refine V.icmp_ltN (tgt := 28) E (by omega) (by omega) dX5_isEdge_19 (by decide) (fun q_19 => ?_) (fun q_19 => ?_)
      · refine V.iconst (v := nI (1)) E dX5_isEdge_28 (by decide) ?_
        refine V.goto (tgt := 33) E dX5_isEdge_29 (by decide) ?_
        refine V.topN (b := bN (edge p)) (by first | exact (bN_t (decide_eq_true (by omega))).symm | exact (bN_f (decide_eq_false (by omega))).symm) ?_
        exact hend _ _ _ _ dX5_isEdge_33 (nrB _) ⟨rfl, rfl⟩
      · refine V.iload_n E dX5_isEdge_22 rfl rfl ?_
        refine V.bipush (v := nI (40)) E dX5_isEdge_23 (by decide) ?_
        refine V.icmp_ltN (tgt := 32) E (by omega) (by omega) dX5_isEdge_25 (by decide) (fun q_25 => ?_) (fun q_25 => ?_)
        · refine V.iconst (v := nI (0)) E dX5_isEdge_32 (by decide) ?_
          refine V.topN (b := bN (edge p)) (by first | exact (bN_t (decide_eq_true (by omega))).symm | exact (bN_f (decide_eq_false (by omega))).symm) ?_
          exact hend _ _ _ _ dX5_isEdge_33 (nrB _) ⟨rfl, rfl⟩
        · refine V.iconst (v := nI (1)) E dX5_isEdge_28 (by decide) ?_
          refine V.goto (tgt := 33) E dX5_isEdge_29 (by decide) ?_
          refine V.topN (b := bN (edge p)) (by first | exact (bN_t (decide_eq_true (by omega))).symm | exact (bN_f (decide_eq_false (by omega))).symm) ?_
          exact hend _ _ _ _ dX5_isEdge_33 (nrB _) ⟨rfl, rfl⟩
abbrev rm_c_X5_rawOf : Room := { frames := 0, cells := 0, slots := 0, locals := 0 }
theorem hd_X5_rawOf : yX5_rawOf.cls ≠ "java/lang/invoke/MethodHandle" ∧ yX5_rawOf.cls ≠ "java/lang/invoke/VarHandle" ∧ (parseMethodDescriptor yX5_rawOf.desc).map (fun d => d.parameters.length) = some 1 := by decide +kernel
set_option maxRecDepth 100000 in
set_option maxHeartbeats 8000000 in
theorem c_X5_rawOf (G : VC) (a : Nat → Nat) (hi : Nat → Nat) (sl : Nat → Nat) (sv : Nat → Nat) (r : Nat → Nat) (o : Nat → Nat) (k : Nat → Nat) (t : Nat → Nat) (m : Nat → Nat) (e : Nat → Nat) (w : Nat → Nat) (tx : Nat → Nat) (cl : Nat → Int32) (hl : Nat) (tl : Nat) (sp : Nat) (rd : Nat) (x : SC) (d : Nat) (hx : SInv x) (hd : d ≤ 45) : Ctr yX5_rawOf wsX5_rawOf rm_c_X5_rawOf G [.ref (a 0), .int (nI (d))] (bl [mdW G a (fla x) hi sl sv r o k t m e w tx cl hl tl sp rd]) (fun v9_ u9_ => u9_ = (bl [mdW G a (fla x) hi sl sv r o k t m e w tx cl hl tl sp rd]) ∧ v9_ = some (.int (nI (rawV (scS x 0) (scS x 1) d)))) := by
  refine Ctr.int (cc := cX5_rawOf) (maxL := 2) (ret := (some .int)) (lv0 := [some (.ref (a 0)), some (.int (nI (d)))]) (by decide) rfl rfl rfl (Nat.le_of_ble_eq_true rfl) rfl (fun A X E hend => ?_)
  refine V.iload_n E dX5_rawOf_0 rfl rfl ?_
  refine V.aload_n E dX5_rawOf_1 rfl rfl ?_
  refine V.getf (C := RX5) (T := TX5) (N := 17) (ref := "GlassSpillModel") E 0 5 0 (by decide +kernel) rfl rfl (by decide) (by decide +kernel) rfl rfl dX5_rawOf_2 ?_
  refine V.iconst (v := nI (0)) E dX5_rawOf_5 (by decide) ?_
  refine V.ialdN (v := nI (scS x 0)) E 1 rfl (by omega) (by decide) (congrArg nI (fla_S _ (by decide))) dX5_rawOf_6 ?_
  refine V.icmp_gtN (tgt := 14) E (by omega) (by have := hx.s0; omega) dX5_rawOf_7 (by decide) (fun q_7 => ?_) (fun q_7 => ?_)
  · refine V.iload_n E dX5_rawOf_14 rfl rfl ?_
    refine V.aload_n E dX5_rawOf_15 rfl rfl ?_
    refine V.getf (C := RX5) (T := TX5) (N := 17) (ref := "GlassSpillModel") E 0 5 0 (by decide +kernel) rfl rfl (by decide) (by decide +kernel) rfl rfl dX5_rawOf_16 ?_
    refine V.iconst (v := nI (1)) E dX5_rawOf_19 (by decide) ?_
    refine V.ialdN (v := nI (scS x 1)) E 1 rfl (by omega) (by decide) (congrArg nI (fla_S _ (by decide))) dX5_rawOf_20 ?_
    refine V.icmp_ltN (tgt := 29) E (by omega) (by have := hx.s1; omega) dX5_rawOf_21 (by decide) (fun q_21 => ?_) (fun q_21 => ?_)
    · refine V.bipush (v := nI (16)) E dX5_rawOf_29 (by decide) ?_
      refine V.iload_n E dX5_rawOf_31 rfl rfl ?_
      refine V.aload_n E dX5_rawOf_32 rfl rfl ?_
      refine V.getf (C := RX5) (T := TX5) (N := 17) (ref := "GlassSpillModel") E 0 5 0 (by decide +kernel) rfl rfl (by decide) (by decide +kernel) rfl rfl dX5_rawOf_33 ?_
      refine V.iconst (v := nI (0)) E dX5_rawOf_36 (by decide) ?_
      refine V.ialdN (v := nI (scS x 0)) E 1 rfl (by omega) (by decide) (congrArg nI (fla_S _ (by decide))) dX5_rawOf_37 ?_
      refine V.isubN E (by omega) dX5_rawOf_38 ?_
      refine V.imulN E  dX5_rawOf_39 ?_
      refine V.aload_n E dX5_rawOf_40 rfl rfl ?_
      refine V.getf (C := RX5) (T := TX5) (N := 17) (ref := "GlassSpillModel") E 0 5 0 (by decide +kernel) rfl rfl (by decide) (by decide +kernel) rfl rfl dX5_rawOf_41 ?_
      refine V.iconst (v := nI (1)) E dX5_rawOf_44 (by decide) ?_
      refine V.ialdN (v := nI (scS x 1)) E 1 rfl (by omega) (by decide) (congrArg nI (fla_S _ (by decide))) dX5_rawOf_45 ?_
      refine V.aload_n E dX5_rawOf_46 rfl rfl ?_
      refine V.getf (C := RX5) (T := TX5) (N := 17) (ref := "GlassSpillModel") E 0 5 0 (by decide +kernel) rfl rfl (by decide) (by decide +kernel) rfl rfl dX5_rawOf_47 ?_
      refine V.iconst (v := nI (0)) E dX5_rawOf_50 (by decide) ?_
      refine V.ialdN (v := nI (scS x 0)) E 1 rfl (by omega) (by decide) (congrArg nI (fla_S _ (by decide))) dX5_rawOf_51 ?_
      refine V.isubN E (by have := hx.lt; omega) dX5_rawOf_52 ?_
      refine V.idivN E (by omega) (by have := hx.lt; omega) (by have := hx.s1; omega) dX5_rawOf_53 ?_
      refine V.topN (b := rawV (scS x 0) (scS x 1) d) (by unfold rawV; first | rw [if_pos (by omega)] | rw [if_neg (by omega), if_pos (by omega)] | rw [if_neg (by omega), if_neg (by omega)]) ?_
      exact hend _ _ _ _ dX5_rawOf_54 (nrI _) ⟨rfl, rfl⟩
    · refine V.bipush (v := nI (16)) E dX5_rawOf_24 (by decide) ?_
      refine V.goto (tgt := 54) E dX5_rawOf_26 (by decide) ?_
      refine V.topN (b := rawV (scS x 0) (scS x 1) d) (by unfold rawV; first | rw [if_pos (by omega)] | rw [if_neg (by omega), if_pos (by omega)] | rw [if_neg (by omega), if_neg (by omega)]) ?_
      exact hend _ _ _ _ dX5_rawOf_54 (nrI _) ⟨rfl, rfl⟩
  · refine V.iconst (v := nI (0)) E dX5_rawOf_10 (by decide) ?_
    refine V.goto (tgt := 54) E dX5_rawOf_11 (by decide) ?_
    refine V.topN (b := rawV (scS x 0) (scS x 1) d) (by unfold rawV; first | rw [if_pos (by omega)] | rw [if_neg (by omega), if_pos (by omega)] | rw [if_neg (by omega), if_neg (by omega)]) ?_
    exact hend _ _ _ _ dX5_rawOf_54 (nrI _) ⟨rfl, rfl⟩
abbrev rm_c_X5_shareOf : Room := { frames := 0, cells := 0, slots := 0, locals := 0 }
theorem hd_X5_shareOf : yX5_shareOf.cls ≠ "java/lang/invoke/MethodHandle" ∧ yX5_shareOf.cls ≠ "java/lang/invoke/VarHandle" ∧ (parseMethodDescriptor yX5_shareOf.desc).map (fun d => d.parameters.length) = some 1 := by decide +kernel
set_option maxRecDepth 100000 in
set_option maxHeartbeats 8000000 in
theorem c_X5_shareOf (G : VC) (a : Nat → Nat) (hi : Nat → Nat) (sl : Nat → Nat) (sv : Nat → Nat) (r : Nat → Nat) (o : Nat → Nat) (k : Nat → Nat) (t : Nat → Nat) (m : Nat → Nat) (e : Nat → Nat) (w : Nat → Nat) (tx : Nat → Nat) (cl : Nat → Int32) (hl : Nat) (tl : Nat) (sp : Nat) (rd : Nat) (x : SC) (kd : Nat) (hd : kd ≤ 4) : Ctr yX5_shareOf wsX5_shareOf rm_c_X5_shareOf G [.ref (a 0), .int (nI (kd))] (bl [mdW G a (fla x) hi sl sv r o k t m e w tx cl hl tl sp rd]) (fun v9_ u9_ => u9_ = (bl [mdW G a (fla x) hi sl sv r o k t m e w tx cl hl tl sp rd]) ∧ v9_ = some (.int (nI (shr x kd)))) := by
  refine Ctr.int (cc := cX5_shareOf) (maxL := 2) (ret := (some .int)) (lv0 := [some (.ref (a 0)), some (.int (nI (kd)))]) (by decide) rfl rfl rfl (Nat.le_of_ble_eq_true rfl) rfl (fun A X E hend => ?_)
  refine V.iload_n E dX5_shareOf_0 rfl rfl ?_
  refine V.if_neN (tgt := 8) E (by omega) dX5_shareOf_1 (by decide) (fun q_1 => ?_) (fun q_1 => ?_)
  · refine V.iload_n E dX5_shareOf_8 rfl rfl ?_
    refine V.iconst (v := nI (2)) E dX5_shareOf_9 (by decide) ?_
    refine V.icmp_neN (tgt := 22) E (by omega) (by omega) dX5_shareOf_10 (by decide) (fun q_10 => ?_) (fun q_10 => ?_)
    · refine V.iload_n E dX5_shareOf_22 rfl rfl ?_
      refine V.iconst (v := nI (4)) E dX5_shareOf_23 (by decide) ?_
      refine V.icmp_neN (tgt := 36) E (by omega) (by omega) dX5_shareOf_24 (by decide) (fun q_24 => ?_) (fun q_24 => ?_)
      · refine V.aload_n E dX5_shareOf_36 rfl rfl ?_
        refine V.getf (C := RX5) (T := TX5) (N := 17) (ref := "GlassSpillModel") E 0 5 0 (by decide +kernel) rfl rfl (by decide) (by decide +kernel) rfl rfl dX5_shareOf_37 ?_
        refine V.iconst (v := nI (2)) E dX5_shareOf_40 (by decide) ?_
        refine V.ialdN (v := nI (scS x 2)) E 1 rfl (by omega) (by decide) (congrArg nI (fla_S _ (by decide))) dX5_shareOf_41 ?_
        refine V.topN (b := shr x kd) (by unfold shr; first | rw [if_pos (by omega)] | rw [if_neg (by omega), if_pos (by omega)] | rw [if_neg (by omega), if_neg (by omega), if_pos (by omega)] | rw [if_neg (by omega), if_neg (by omega), if_neg (by omega)]) ?_
        exact hend _ _ _ _ dX5_shareOf_42 (nrI _) ⟨rfl, rfl⟩
      · refine V.aload_n E dX5_shareOf_27 rfl rfl ?_
        refine V.getf (C := RX5) (T := TX5) (N := 17) (ref := "GlassSpillModel") E 0 5 0 (by decide +kernel) rfl rfl (by decide) (by decide +kernel) rfl rfl dX5_shareOf_28 ?_
        refine V.iconst (v := nI (4)) E dX5_shareOf_31 (by decide) ?_
        refine V.ialdN (v := nI (scS x 4)) E 1 rfl (by omega) (by decide) (congrArg nI (fla_S _ (by decide))) dX5_shareOf_32 ?_
        refine V.goto (tgt := 42) E dX5_shareOf_33 (by decide) ?_
        refine V.topN (b := shr x kd) (by unfold shr; first | rw [if_pos (by omega)] | rw [if_neg (by omega), if_pos (by omega)] | rw [if_neg (by omega), if_neg (by omega), if_pos (by omega)] | rw [if_neg (by omega), if_neg (by omega), if_neg (by omega)]) ?_
        exact hend _ _ _ _ dX5_shareOf_42 (nrI _) ⟨rfl, rfl⟩
    · refine V.aload_n E dX5_shareOf_13 rfl rfl ?_
      refine V.getf (C := RX5) (T := TX5) (N := 17) (ref := "GlassSpillModel") E 0 5 0 (by decide +kernel) rfl rfl (by decide) (by decide +kernel) rfl rfl dX5_shareOf_14 ?_
      refine V.iconst (v := nI (3)) E dX5_shareOf_17 (by decide) ?_
      refine V.ialdN (v := nI (scS x 3)) E 1 rfl (by omega) (by decide) (congrArg nI (fla_S _ (by decide))) dX5_shareOf_18 ?_
      refine V.goto (tgt := 42) E dX5_shareOf_19 (by decide) ?_
      refine V.topN (b := shr x kd) (by unfold shr; first | rw [if_pos (by omega)] | rw [if_neg (by omega), if_pos (by omega)] | rw [if_neg (by omega), if_neg (by omega), if_pos (by omega)] | rw [if_neg (by omega), if_neg (by omega), if_neg (by omega)]) ?_
      exact hend _ _ _ _ dX5_shareOf_42 (nrI _) ⟨rfl, rfl⟩
  · refine V.iconst (v := nI (0)) E dX5_shareOf_4 (by decide) ?_
    refine V.goto (tgt := 42) E dX5_shareOf_5 (by decide) ?_
    refine V.topN (b := shr x kd) (by unfold shr; first | rw [if_pos (by omega)] | rw [if_neg (by omega), if_pos (by omega)] | rw [if_neg (by omega), if_neg (by omega), if_pos (by omega)] | rw [if_neg (by omega), if_neg (by omega), if_neg (by omega)]) ?_
    exact hend _ _ _ _ dX5_shareOf_42 (nrI _) ⟨rfl, rfl⟩
abbrev rm_c_X5_without : Room := { frames := 0, cells := 0, slots := 0, locals := 0 }
theorem hd_X5_without : yX5_without.cls ≠ "java/lang/invoke/MethodHandle" ∧ yX5_without.cls ≠ "java/lang/invoke/VarHandle" ∧ (parseMethodDescriptor yX5_without.desc).map (fun d => d.parameters.length) = some 3 := by decide +kernel
set_option maxRecDepth 100000 in
set_option maxHeartbeats 8000000 in
theorem c_X5_without (G : VC) (c : Nat) (k : Nat) (v : Nat) (hk : k < 3) (hc : c < 4096) (hm : v * 2 ^ (4 * (2 - k)) ≤ c) : Ctr yX5_without wsX5_without rm_c_X5_without G [.int (nI (c)), .int (nI (k)), .int (nI (v))] (bl []) (fun v9_ u9_ => u9_ = (bl []) ∧ v9_ = some (.int (nI (c - v * 2 ^ (4 * (2 - k)))))) := by
  refine Ctr.int (cc := cX5_without) (maxL := 3) (ret := (some .int)) (lv0 := [some (.int (nI (c))), some (.int (nI (k))), some (.int (nI (v)))]) (by decide) rfl rfl rfl (Nat.le_of_ble_eq_true rfl) rfl (fun A X E hend => ?_)
  refine V.iload_n E dX5_without_0 rfl rfl ?_
  refine V.iload_n E dX5_without_1 rfl rfl ?_
  refine V.bipush (v := nI (8)) E dX5_without_2 (by decide) ?_
  refine V.iconst (v := nI (4)) E dX5_without_4 (by decide) ?_
  refine V.iload_n E dX5_without_5 rfl rfl ?_
  refine V.imulN E  dX5_without_6 ?_
  refine V.isubN E (by omega) dX5_without_7 ?_
  refine V.topN (b := 4 * (2 - k)) (by omega) ?_
  refine V.ishlN E (by omega) (by omega) dX5_without_8 ?_
  refine V.isubN E hm dX5_without_9 ?_
  refine V.topN (b := c - v * 2 ^ (4 * (2 - k))) (by first | rfl | omega | simp_all) ?_
  exact hend _ _ _ _ dX5_without_10 (nrI _) ⟨rfl, rfl⟩
abbrev rm_c_X5_composes : Room := { frames := 1, cells := 0, slots := 0, locals := 21 }
theorem hd_X5_composes : yX5_composes.cls ≠ "java/lang/invoke/MethodHandle" ∧ yX5_composes.cls ≠ "java/lang/invoke/VarHandle" ∧ (parseMethodDescriptor yX5_composes.desc).map (fun d => d.parameters.length) = some 2 := by decide +kernel
set_option maxRecDepth 100000 in
set_option maxHeartbeats 8000000 in
theorem c_X5_composes (G : VC) (a : Nat → Nat) (hi : Nat → Nat) (sl : Nat → Nat) (sv : Nat → Nat) (r : Nat → Nat) (o : Nat → Nat) (k : Nat → Nat) (t : Nat → Nat) (m : Nat → Nat) (e : Nat → Nat) (w : Nat → Nat) (tx : Nat → Nat) (cl : Nat → Int32) (hl : Nat) (tl : Nat) (sp : Nat) (rd : Nat) (x : SC) (p : Nat) (f : Nat) (hx : SInv x) (hp : p < 48) (hf : f < 4096) (ho : o p ≤ 16) : Ctr yX5_composes wsX5_composes rm_c_X5_composes G [.ref (a 0), .int (nI (p)), .int (nI (f))] (bl [mdW G a (fla x) hi sl sv r o k t m e w tx cl hl tl sp rd]) (fun v9_ u9_ => u9_ = (bl [mdW G a (fla x) hi sl sv r o k t m e w tx cl hl tl sp rd]) ∧ v9_ = some (.int (nI (cmpC f (scB x p) (o p))))) := by
  refine Ctr.int (cc := cX5_composes) (maxL := 6) (ret := (some .int)) (lv0 := [some (.ref (a 0)), some (.int (nI (p))), some (.int (nI (f))), none, none, none]) (by decide) rfl rfl rfl (Nat.le_of_ble_eq_true rfl) rfl (fun A X E hend => ?_)
  refine V.iconst (v := nI (0)) E dX5_composes_0 (by decide) ?_
  refine V.istore_n (lv' := [some (.ref (a 0)), some (.int (nI (p))), some (.int (nI (f))), some (.int (nI (0))), none, none]) E dX5_composes_1 rfl (Nat.le_of_ble_eq_true rfl) rfl rfl ?_
  refine V.iconst (v := nI (0)) E dX5_composes_2 (by decide) ?_
  refine V.istore (lv' := [some (.ref (a 0)), some (.int (nI (p))), some (.int (nI (f))), some (.int (nI (0))), some (.int (nI (0))), none]) E dX5_composes_3 (Nat.le_of_ble_eq_true rfl) rfl rfl ?_
  refine V.iload E dX5_composes_5 rfl ?_
  refine V.iconst (v := nI (3)) E dX5_composes_7 (by decide) ?_
  refine V.icmp_geN (tgt := 68) E (by omega) (by omega) dX5_composes_8 (by decide) (fun q_8 => absurd q_8 (by decide)) (fun q_8 => ?_)
  refine V.iload_n E dX5_composes_11 rfl rfl ?_
  refine V.iload E dX5_composes_12 rfl ?_
  refine V.callS E (c_X5_partOf G f 0 (hf) (by decide)) (bl [mdW G a (fla x) hi sl sv r o k t m e w tx cl hl tl sp rd]) [] gX5_composes_X5_partOf rfl hd_X5_partOf ⟨⟨Nat.le_of_ble_eq_true rfl, Nat.le_of_ble_eq_true rfl⟩, Nat.le_of_ble_eq_true rfl, Nat.le_of_ble_eq_true rfl⟩ rfl (Nat.le_of_ble_eq_true rfl) rfl dX5_composes_14 (List.Perm.refl _) (kc' := 0) (ks' := 0) rfl rfl (rwI (ws' := (bl [mdW G a (fla x) hi sl sv r o k t m e w tx cl hl tl sp rd])) (List.Perm.refl _) ?_)
  refine V.aload_n E dX5_composes_17 rfl rfl ?_
  refine V.getf (C := RX5) (T := TX5) (N := 17) (ref := "GlassSpillModel") E 0 5 6 (by decide +kernel) rfl rfl (by decide) (by decide +kernel) rfl rfl dX5_composes_18 ?_
  refine V.iload_n E dX5_composes_21 rfl rfl ?_
  refine V.ialdN (v := nI (o p)) E 6 rfl (by omega) (by decide) (rfl) dX5_composes_22 ?_
  refine V.imulN E  dX5_composes_23 ?_
  refine V.aload_n E dX5_composes_24 rfl rfl ?_
  refine V.getf (C := RX5) (T := TX5) (N := 17) (ref := "GlassSpillModel") E 0 5 0 (by decide +kernel) rfl rfl (by decide) (by decide +kernel) rfl rfl dX5_composes_25 ?_
  refine V.bipush (v := nI (55)) E dX5_composes_28 (by decide) ?_
  refine V.iload_n E dX5_composes_30 rfl rfl ?_
  refine V.iaddN E  dX5_composes_31 ?_
  refine V.ialdN (v := nI (scB x p)) E 1 rfl (by omega) (by decide) (congrArg nI (fla_B _ (by omega))) dX5_composes_32 ?_
  refine V.iload E dX5_composes_33 rfl ?_
  refine V.callS E (c_X5_partOf G (scB x p) 0 (hx.b p hp) (by decide)) (bl [mdW G a (fla x) hi sl sv r o k t m e w tx cl hl tl sp rd]) [.int (nI ((P f 0) * (o p)))] gX5_composes_X5_partOf rfl hd_X5_partOf ⟨⟨Nat.le_of_ble_eq_true rfl, Nat.le_of_ble_eq_true rfl⟩, Nat.le_of_ble_eq_true rfl, Nat.le_of_ble_eq_true rfl⟩ rfl (Nat.le_of_ble_eq_true rfl) rfl dX5_composes_35 (List.Perm.refl _) (kc' := 0) (ks' := 0) rfl rfl (rwI (ws' := (bl [mdW G a (fla x) hi sl sv r o k t m e w tx cl hl tl sp rd])) (List.Perm.refl _) ?_)
  refine V.bipush (v := nI (16)) E dX5_composes_38 (by decide) ?_
  refine V.aload_n E dX5_composes_40 rfl rfl ?_
  refine V.getf (C := RX5) (T := TX5) (N := 17) (ref := "GlassSpillModel") E 0 5 6 (by decide +kernel) rfl rfl (by decide) (by decide +kernel) rfl rfl dX5_composes_41 ?_
  refine V.iload_n E dX5_composes_44 rfl rfl ?_
  refine V.ialdN (v := nI (o p)) E 6 rfl (by omega) (by decide) (rfl) dX5_composes_45 ?_
  refine V.isubN E (by omega) dX5_composes_46 ?_
  refine V.imulN E  dX5_composes_47 ?_
  refine V.iaddN E  dX5_composes_48 ?_
  refine V.bipush (v := nI (16)) E dX5_composes_49 (by decide) ?_
  refine V.idivN E (Nat.lt_of_le_of_lt (mix_le (P_lt _ _) (P_lt _ _) ho) (by decide)) (by decide) (by decide) dX5_composes_51 ?_
  refine V.topN (b := mixK f (scB x p) (o p) 0) (rfl) ?_
  refine V.istore (lv' := [some (.ref (a 0)), some (.int (nI (p))), some (.int (nI (f))), some (.int (nI (0))), some (.int (nI (0))), some (.int (nI (mixK f (scB x p) (o p) 0)))]) E dX5_composes_52 (Nat.le_of_ble_eq_true rfl) rfl rfl ?_
  refine V.bipush (v := nI (16)) E dX5_composes_54 (by decide) ?_
  refine V.iload_n E dX5_composes_56 rfl rfl ?_
  refine V.imulN E  dX5_composes_57 ?_
  refine V.iload E dX5_composes_58 rfl ?_
  refine V.iaddN E  dX5_composes_60 ?_
  refine V.istore_n (lv' := [some (.ref (a 0)), some (.int (nI (p))), some (.int (nI (f))), some (.int (nI (0 + (mixK f (scB x p) (o p) 0)))), some (.int (nI (0))), some (.int (nI (mixK f (scB x p) (o p) 0)))]) E dX5_composes_61 rfl (Nat.le_of_ble_eq_true rfl) rfl rfl ?_
  refine V.iincN (lv' := [some (.ref (a 0)), some (.int (nI (p))), some (.int (nI (f))), some (.int (nI (0 + (mixK f (scB x p) (o p) 0)))), some (.int (nI (1))), some (.int (nI (mixK f (scB x p) (o p) 0)))]) E dX5_composes_62 rfl (Nat.le_of_ble_eq_true rfl) rfl rfl ?_
  refine V.goto (tgt := 5) E dX5_composes_65 (by decide) ?_
  refine V.iload E dX5_composes_5 rfl ?_
  refine V.iconst (v := nI (3)) E dX5_composes_7 (by decide) ?_
  refine V.icmp_geN (tgt := 68) E (by omega) (by omega) dX5_composes_8 (by decide) (fun q_8 => absurd q_8 (by decide)) (fun q_8 => ?_)
  refine V.iload_n E dX5_composes_11 rfl rfl ?_
  refine V.iload E dX5_composes_12 rfl ?_
  refine V.callS E (c_X5_partOf G f 1 (hf) (by decide)) (bl [mdW G a (fla x) hi sl sv r o k t m e w tx cl hl tl sp rd]) [] gX5_composes_X5_partOf rfl hd_X5_partOf ⟨⟨Nat.le_of_ble_eq_true rfl, Nat.le_of_ble_eq_true rfl⟩, Nat.le_of_ble_eq_true rfl, Nat.le_of_ble_eq_true rfl⟩ rfl (Nat.le_of_ble_eq_true rfl) rfl dX5_composes_14 (List.Perm.refl _) (kc' := 0) (ks' := 0) rfl rfl (rwI (ws' := (bl [mdW G a (fla x) hi sl sv r o k t m e w tx cl hl tl sp rd])) (List.Perm.refl _) ?_)
  refine V.aload_n E dX5_composes_17 rfl rfl ?_
  refine V.getf (C := RX5) (T := TX5) (N := 17) (ref := "GlassSpillModel") E 0 5 6 (by decide +kernel) rfl rfl (by decide) (by decide +kernel) rfl rfl dX5_composes_18 ?_
  refine V.iload_n E dX5_composes_21 rfl rfl ?_
  refine V.ialdN (v := nI (o p)) E 6 rfl (by omega) (by decide) (rfl) dX5_composes_22 ?_
  refine V.imulN E  dX5_composes_23 ?_
  refine V.aload_n E dX5_composes_24 rfl rfl ?_
  refine V.getf (C := RX5) (T := TX5) (N := 17) (ref := "GlassSpillModel") E 0 5 0 (by decide +kernel) rfl rfl (by decide) (by decide +kernel) rfl rfl dX5_composes_25 ?_
  refine V.bipush (v := nI (55)) E dX5_composes_28 (by decide) ?_
  refine V.iload_n E dX5_composes_30 rfl rfl ?_
  refine V.iaddN E  dX5_composes_31 ?_
  refine V.ialdN (v := nI (scB x p)) E 1 rfl (by omega) (by decide) (congrArg nI (fla_B _ (by omega))) dX5_composes_32 ?_
  refine V.iload E dX5_composes_33 rfl ?_
  refine V.callS E (c_X5_partOf G (scB x p) 1 (hx.b p hp) (by decide)) (bl [mdW G a (fla x) hi sl sv r o k t m e w tx cl hl tl sp rd]) [.int (nI ((P f 1) * (o p)))] gX5_composes_X5_partOf rfl hd_X5_partOf ⟨⟨Nat.le_of_ble_eq_true rfl, Nat.le_of_ble_eq_true rfl⟩, Nat.le_of_ble_eq_true rfl, Nat.le_of_ble_eq_true rfl⟩ rfl (Nat.le_of_ble_eq_true rfl) rfl dX5_composes_35 (List.Perm.refl _) (kc' := 0) (ks' := 0) rfl rfl (rwI (ws' := (bl [mdW G a (fla x) hi sl sv r o k t m e w tx cl hl tl sp rd])) (List.Perm.refl _) ?_)
  refine V.bipush (v := nI (16)) E dX5_composes_38 (by decide) ?_
  refine V.aload_n E dX5_composes_40 rfl rfl ?_
  refine V.getf (C := RX5) (T := TX5) (N := 17) (ref := "GlassSpillModel") E 0 5 6 (by decide +kernel) rfl rfl (by decide) (by decide +kernel) rfl rfl dX5_composes_41 ?_
  refine V.iload_n E dX5_composes_44 rfl rfl ?_
  refine V.ialdN (v := nI (o p)) E 6 rfl (by omega) (by decide) (rfl) dX5_composes_45 ?_
  refine V.isubN E (by omega) dX5_composes_46 ?_
  refine V.imulN E  dX5_composes_47 ?_
  refine V.iaddN E  dX5_composes_48 ?_
  refine V.bipush (v := nI (16)) E dX5_composes_49 (by decide) ?_
  refine V.idivN E (Nat.lt_of_le_of_lt (mix_le (P_lt _ _) (P_lt _ _) ho) (by decide)) (by decide) (by decide) dX5_composes_51 ?_
  refine V.topN (b := mixK f (scB x p) (o p) 1) (rfl) ?_
  refine V.istore (lv' := [some (.ref (a 0)), some (.int (nI (p))), some (.int (nI (f))), some (.int (nI (0 + (mixK f (scB x p) (o p) 0)))), some (.int (nI (1))), some (.int (nI (mixK f (scB x p) (o p) 1)))]) E dX5_composes_52 (Nat.le_of_ble_eq_true rfl) rfl rfl ?_
  refine V.bipush (v := nI (16)) E dX5_composes_54 (by decide) ?_
  refine V.iload_n E dX5_composes_56 rfl rfl ?_
  refine V.imulN E  dX5_composes_57 ?_
  refine V.iload E dX5_composes_58 rfl ?_
  refine V.iaddN E  dX5_composes_60 ?_
  refine V.istore_n (lv' := [some (.ref (a 0)), some (.int (nI (p))), some (.int (nI (f))), some (.int (nI ((16 * (0 + (mixK f (scB x p) (o p) 0))) + (mixK f (scB x p) (o p) 1)))), some (.int (nI (1))), some (.int (nI (mixK f (scB x p) (o p) 1)))]) E dX5_composes_61 rfl (Nat.le_of_ble_eq_true rfl) rfl rfl ?_
  refine V.iincN (lv' := [some (.ref (a 0)), some (.int (nI (p))), some (.int (nI (f))), some (.int (nI ((16 * (0 + (mixK f (scB x p) (o p) 0))) + (mixK f (scB x p) (o p) 1)))), some (.int (nI (2))), some (.int (nI (mixK f (scB x p) (o p) 1)))]) E dX5_composes_62 rfl (Nat.le_of_ble_eq_true rfl) rfl rfl ?_
  refine V.goto (tgt := 5) E dX5_composes_65 (by decide) ?_
  refine V.iload E dX5_composes_5 rfl ?_
  refine V.iconst (v := nI (3)) E dX5_composes_7 (by decide) ?_
  refine V.icmp_geN (tgt := 68) E (by omega) (by omega) dX5_composes_8 (by decide) (fun q_8 => absurd q_8 (by decide)) (fun q_8 => ?_)
  refine V.iload_n E dX5_composes_11 rfl rfl ?_
  refine V.iload E dX5_composes_12 rfl ?_
  refine V.callS E (c_X5_partOf G f 2 (hf) (by decide)) (bl [mdW G a (fla x) hi sl sv r o k t m e w tx cl hl tl sp rd]) [] gX5_composes_X5_partOf rfl hd_X5_partOf ⟨⟨Nat.le_of_ble_eq_true rfl, Nat.le_of_ble_eq_true rfl⟩, Nat.le_of_ble_eq_true rfl, Nat.le_of_ble_eq_true rfl⟩ rfl (Nat.le_of_ble_eq_true rfl) rfl dX5_composes_14 (List.Perm.refl _) (kc' := 0) (ks' := 0) rfl rfl (rwI (ws' := (bl [mdW G a (fla x) hi sl sv r o k t m e w tx cl hl tl sp rd])) (List.Perm.refl _) ?_)
  refine V.aload_n E dX5_composes_17 rfl rfl ?_
  refine V.getf (C := RX5) (T := TX5) (N := 17) (ref := "GlassSpillModel") E 0 5 6 (by decide +kernel) rfl rfl (by decide) (by decide +kernel) rfl rfl dX5_composes_18 ?_
  refine V.iload_n E dX5_composes_21 rfl rfl ?_
  refine V.ialdN (v := nI (o p)) E 6 rfl (by omega) (by decide) (rfl) dX5_composes_22 ?_
  refine V.imulN E  dX5_composes_23 ?_
  refine V.aload_n E dX5_composes_24 rfl rfl ?_
  refine V.getf (C := RX5) (T := TX5) (N := 17) (ref := "GlassSpillModel") E 0 5 0 (by decide +kernel) rfl rfl (by decide) (by decide +kernel) rfl rfl dX5_composes_25 ?_
  refine V.bipush (v := nI (55)) E dX5_composes_28 (by decide) ?_
  refine V.iload_n E dX5_composes_30 rfl rfl ?_
  refine V.iaddN E  dX5_composes_31 ?_
  refine V.ialdN (v := nI (scB x p)) E 1 rfl (by omega) (by decide) (congrArg nI (fla_B _ (by omega))) dX5_composes_32 ?_
  refine V.iload E dX5_composes_33 rfl ?_
  refine V.callS E (c_X5_partOf G (scB x p) 2 (hx.b p hp) (by decide)) (bl [mdW G a (fla x) hi sl sv r o k t m e w tx cl hl tl sp rd]) [.int (nI ((P f 2) * (o p)))] gX5_composes_X5_partOf rfl hd_X5_partOf ⟨⟨Nat.le_of_ble_eq_true rfl, Nat.le_of_ble_eq_true rfl⟩, Nat.le_of_ble_eq_true rfl, Nat.le_of_ble_eq_true rfl⟩ rfl (Nat.le_of_ble_eq_true rfl) rfl dX5_composes_35 (List.Perm.refl _) (kc' := 0) (ks' := 0) rfl rfl (rwI (ws' := (bl [mdW G a (fla x) hi sl sv r o k t m e w tx cl hl tl sp rd])) (List.Perm.refl _) ?_)
  refine V.bipush (v := nI (16)) E dX5_composes_38 (by decide) ?_
  refine V.aload_n E dX5_composes_40 rfl rfl ?_
  refine V.getf (C := RX5) (T := TX5) (N := 17) (ref := "GlassSpillModel") E 0 5 6 (by decide +kernel) rfl rfl (by decide) (by decide +kernel) rfl rfl dX5_composes_41 ?_
  refine V.iload_n E dX5_composes_44 rfl rfl ?_
  refine V.ialdN (v := nI (o p)) E 6 rfl (by omega) (by decide) (rfl) dX5_composes_45 ?_
  refine V.isubN E (by omega) dX5_composes_46 ?_
  refine V.imulN E  dX5_composes_47 ?_
  refine V.iaddN E  dX5_composes_48 ?_
  refine V.bipush (v := nI (16)) E dX5_composes_49 (by decide) ?_
  refine V.idivN E (Nat.lt_of_le_of_lt (mix_le (P_lt _ _) (P_lt _ _) ho) (by decide)) (by decide) (by decide) dX5_composes_51 ?_
  refine V.topN (b := mixK f (scB x p) (o p) 2) (rfl) ?_
  refine V.istore (lv' := [some (.ref (a 0)), some (.int (nI (p))), some (.int (nI (f))), some (.int (nI ((16 * (0 + (mixK f (scB x p) (o p) 0))) + (mixK f (scB x p) (o p) 1)))), some (.int (nI (2))), some (.int (nI (mixK f (scB x p) (o p) 2)))]) E dX5_composes_52 (Nat.le_of_ble_eq_true rfl) rfl rfl ?_
  refine V.bipush (v := nI (16)) E dX5_composes_54 (by decide) ?_
  refine V.iload_n E dX5_composes_56 rfl rfl ?_
  refine V.imulN E  dX5_composes_57 ?_
  refine V.iload E dX5_composes_58 rfl ?_
  refine V.iaddN E  dX5_composes_60 ?_
  refine V.istore_n (lv' := [some (.ref (a 0)), some (.int (nI (p))), some (.int (nI (f))), some (.int (nI ((16 * ((16 * (0 + (mixK f (scB x p) (o p) 0))) + (mixK f (scB x p) (o p) 1))) + (mixK f (scB x p) (o p) 2)))), some (.int (nI (2))), some (.int (nI (mixK f (scB x p) (o p) 2)))]) E dX5_composes_61 rfl (Nat.le_of_ble_eq_true rfl) rfl rfl ?_
  refine V.iincN (lv' := [some (.ref (a 0)), some (.int (nI (p))), some (.int (nI (f))), some (.int (nI ((16 * ((16 * (0 + (mixK f (scB x p) (o p) 0))) + (mixK f (scB x p) (o p) 1))) + (mixK f (scB x p) (o p) 2)))), some (.int (nI (3))), some (.int (nI (mixK f (scB x p) (o p) 2)))]) E dX5_composes_62 rfl (Nat.le_of_ble_eq_true rfl) rfl rfl ?_
  refine V.goto (tgt := 5) E dX5_composes_65 (by decide) ?_
  refine V.iload E dX5_composes_5 rfl ?_
  refine V.iconst (v := nI (3)) E dX5_composes_7 (by decide) ?_
  refine V.icmp_geN (tgt := 68) E (by omega) (by omega) dX5_composes_8 (by decide) (fun q_8 => ?_) (fun q_8 => absurd q_8 (by decide))
  refine V.iload_n E dX5_composes_68 rfl rfl ?_
  refine V.topN (b := cmpC f (scB x p) (o p)) (by unfold cmpC; omega) ?_
  exact hend _ _ _ _ dX5_composes_69 (nrI _) ⟨rfl, rfl⟩
