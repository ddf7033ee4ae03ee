/-! the reference: its leaves -/
def fla (x : SC) : Nat → Nat := fun j => if j < 6 then scS x j else if j = 6 then scC x else if j < 55 then scF x (j - 7) else if j < 103 then scB x (j - 55) else scG x (j - 103)
theorem fla_S (x : SC) {j : Nat} (h : j < 6) : fla x j = scS x j := if_pos h
theorem fla_C (x : SC) : fla x 6 = scC x := rfl
theorem fla_F (x : SC) {p : Nat} (h : p < 48) : fla x (7 + p) = scF x p := by
  unfold fla
  rw [if_neg (by omega), if_neg (by omega), if_pos (by omega), show 7 + p - 7 = p by omega]
theorem fla_B (x : SC) {p : Nat} (h : p < 48) : fla x (55 + p) = scB x p := by
  unfold fla
  rw [if_neg (by omega), if_neg (by omega), if_neg (by omega), if_pos (by omega), show 55 + p - 55 = p by omega]
theorem fla_G (x : SC) {p : Nat} (_ : p < 48) : fla x (103 + p) = scG x p := by
  unfold fla
  rw [if_neg (by omega), if_neg (by omega), if_neg (by omega), if_neg (by omega), show 103 + p - 103 = p by omega]
theorem fla_uS (x : SC) {k v : Nat} (h : k < 6) (j : Nat) : upd (nA (fla x)) k (nI v) j = nA (fla (upN (scS x) k v, x.2)) j := by
  rw [upN_a]
  refine congrArg nI ?_
  unfold upN fla
  by_cases e : j = k
  · subst e; rw [if_pos rfl, if_pos h]; exact (if_pos rfl).symm
  · rw [if_neg e]
    by_cases h6 : j < 6
    · rw [if_pos h6, if_pos h6]; exact (if_neg e).symm
    · rw [if_neg h6, if_neg h6]
theorem fla_uC (x : SC) {v : Nat} (j : Nat) : upd (nA (fla x)) 6 (nI v) j = nA (fla (scS x, scF x, scB x, scG x, v)) j := by
  rw [upN_a]
  refine congrArg nI ?_
  unfold upN fla
  by_cases e : j = 6
  · subst e; rfl
  · rw [if_neg e]
    by_cases h6 : j < 6
    · rw [if_pos h6, if_pos h6]
    · rw [if_neg h6, if_neg h6, if_neg e, if_neg e]
theorem fla_uF (x : SC) {p v : Nat} (h : p < 48) (j : Nat) : upd (nA (fla x)) (7 + p) (nI v) j = nA (fla (scS x, upN (scF x) p v, x.2.2)) j := by
  rw [upN_a]
  refine congrArg nI ?_
  unfold upN fla
  by_cases e : j = 7 + p
  · subst e; rw [if_pos rfl, if_neg (by omega), if_neg (by omega), if_pos (by omega)]; exact (if_pos (by omega)).symm
  · rw [if_neg e]
    by_cases h6 : j < 6
    · rw [if_pos h6, if_pos h6]
    · rw [if_neg h6, if_neg h6]
      by_cases h7 : j = 6
      · rw [if_pos h7, if_pos h7]
      · rw [if_neg h7, if_neg h7]
        by_cases h8 : j < 55
        · rw [if_pos h8, if_pos h8]; exact (if_neg (by omega)).symm
        · rw [if_neg h8, if_neg h8]
theorem fla_uB (x : SC) {p v : Nat} (h : p < 48) (j : Nat) : upd (nA (fla x)) (55 + p) (nI v) j = nA (fla (scS x, scF x, upN (scB x) p v, x.2.2.2)) j := by
  rw [upN_a]
  refine congrArg nI ?_
  unfold upN fla
  by_cases e : j = 55 + p
  · subst e; rw [if_pos rfl, if_neg (by omega), if_neg (by omega), if_neg (by omega), if_pos (by omega)]; exact (if_pos (by omega)).symm
  · rw [if_neg e]
    by_cases h6 : j < 6
    · rw [if_pos h6, if_pos h6]
    · rw [if_neg h6, if_neg h6]
      by_cases h7 : j = 6
      · rw [if_pos h7, if_pos h7]
      · rw [if_neg h7, if_neg h7]
        by_cases h8 : j < 55
        · rw [if_pos h8, if_pos h8]
        · rw [if_neg h8, if_neg h8]
          by_cases h9 : j < 103
          · rw [if_pos h9, if_pos h9]; exact (if_neg (by omega)).symm
          · rw [if_neg h9, if_neg h9]
theorem fla_uG (x : SC) {p v : Nat} (_ : p < 48) (j : Nat) : upd (nA (fla x)) (103 + p) (nI v) j = nA (fla (scS x, scF x, scB x, upN (scG x) p v, scC x)) j := by
  rw [upN_a]
  refine congrArg nI ?_
  unfold upN fla
  by_cases e : j = 103 + p
  · subst e; rw [if_pos rfl, if_neg (by omega), if_neg (by omega), if_neg (by omega), if_neg (by omega)]; exact (if_pos (by omega)).symm
  · rw [if_neg e]
    by_cases h6 : j < 6
    · rw [if_pos h6, if_pos h6]
    · rw [if_neg h6, if_neg h6]
      by_cases h7 : j = 6
      · rw [if_pos h7, if_pos h7]
      · rw [if_neg h7, if_neg h7]
        by_cases h8 : j < 55
        · rw [if_pos h8, if_pos h8]
        · rw [if_neg h8, if_neg h8]
          by_cases h9 : j < 103
          · rw [if_pos h9, if_pos h9]
          · rw [if_neg h9, if_neg h9]; exact (if_neg (by omega)).symm
abbrev mdW (G : VC) (a : Nat → Nat) (al hi sl sv r o k t m e w tx : Nat → Nat) (cl : Nat → Int32) (hl tl sp rd : Nat) : va_W := [(a 0, kO 5 [.ref (a 1), .ref (a 2), .int (nI hl), .ref (a 3), .ref (a 4), .ref (a 5), .ref (a 6), .ref (a 7), .ref (a 8), .ref (a 9), .ref (a 10), .ref (a 11), .ref (a 12), .int (nI tl), .int (nI sp), .ref (a 13), .int (nI rd)]), (a 1, kA (gI G) 151 (nA al)), (a 2, kA (gI G) 906 (nA hi)), (a 3, kA (gI G) 302 (nA sl)), (a 4, kA (gI G) 2 (nA sv)), (a 5, kA (gI G) 48 (nA r)), (a 6, kA (gI G) 48 (nA o)), (a 7, kA (gI G) 48 (nA k)), (a 8, kA (gI G) 48 (nA t)), (a 9, kA (gI G) 48 (nA m)), (a 10, kA (gI G) 48 (nA e)), (a 11, kA (gI G) 48 (nA w)), (a 12, kA (gI G) 48 (nA tx)), (a 13, kA (gI G) 8 cl)]
def inL (v lo hi : Int64) : Bool := decide (lo ≤ v ∧ v ≤ hi)
theorem l_lt (a b : Int64) : a < b ↔ a.toInt < b.toInt := Int64.lt_iff_toInt_lt
theorem l_le (a b : Int64) : a ≤ b ↔ a.toInt ≤ b.toInt := Int64.le_iff_toInt_le
theorem lgc_lt {x y : Int64} (h : lg_cmp x y < 0) : x < y := by
  unfold lg_cmp at h
  split at h
  · exact absurd h (by decide)
  · split at h
    · exact absurd h (by decide)
    · rename_i h1 h2
      have h1 : ¬ y < x := h1
      rw [l_lt] at h1 ⊢
      have : x.toInt ≠ y.toInt := fun e => h2 (Int64.toInt_inj.mp e)
      omega
theorem lgc_gt {x y : Int64} (h : 0 < lg_cmp x y) : y < x := by
  unfold lg_cmp at h
  split at h
  · assumption
  · split at h
    · exact absurd h (by decide)
    · exact absurd h (by decide)
theorem lgc_nlt {x y : Int64} (h : ¬ lg_cmp x y < 0) : y ≤ x := by
  unfold lg_cmp at h
  split at h
  · rename_i h1
    have h1 : y < x := h1
    rw [l_lt] at h1; rw [l_le]; omega
  · split at h
    · rename_i h1 h2
      rw [h2, l_le]; omega
    · exact absurd (by decide) h
theorem lgc_ngt {x y : Int64} (h : ¬ 0 < lg_cmp x y) : x ≤ y := by
  unfold lg_cmp at h
  split at h
  · exact absurd (by decide) h
  · rename_i h1
    have h1 : ¬ y < x := h1
    rw [l_lt] at h1; rw [l_le]; omega
theorem inL_f1 {v lo hi : Int64} (h : v < lo) : inL v lo hi = false := by
  rw [l_lt] at h
  simp only [inL, decide_eq_false_iff_not, l_le]; omega
theorem inL_f2 {v lo hi : Int64} (h : hi < v) : inL v lo hi = false := by
  rw [l_lt] at h
  simp only [inL, decide_eq_false_iff_not, l_le]; omega
theorem inL_t {v lo hi : Int64} (h1 : lo ≤ v) (h2 : v ≤ hi) : inL v lo hi = true := by
  simp only [inL, decide_eq_true_eq]; exact ⟨h1, h2⟩
theorem i_wide (x : Int32) : x.toInt64.toInt = x.toInt := Int32.toInt_toInt64 x
theorem inL_ok (x : Int32) {n : Nat} (hn : n < 2 ^ 31) : inL x.toInt64 (0 : Int64) (lN n) = okI (n + 1) x := by
  have h0 : (0 : Int64).toInt = 0 := rfl
  unfold inL okI
  rw [decide_eq_decide, l_le, l_le, i_wide, lN_toInt hn, h0]
  omega
theorem inL_NN {a b c : Nat} (ha : a < 2 ^ 31) (hb : b < 2 ^ 31) (hc : c < 2 ^ 31) : inL (nI a).toInt64 (nI b).toInt64 (nI c).toInt64 = decide (b ≤ a ∧ a ≤ c) := by
  unfold inL
  rw [decide_eq_decide, l_le, l_le, i_wide, i_wide, i_wide, nI_toInt ha, nI_toInt hb, nI_toInt hc]
  omega
theorem m1N {a : Nat} (h : 0 < a) : nI a + (-1) = nI (a - 1) := by
  obtain ⟨b, rfl⟩ : ∃ b, a = b + 1 := ⟨a - 1, by omega⟩
  rw [pk_m1, Nat.add_sub_cancel]
theorem okI_m1 {a n : Nat} (ha : a < n) (hn : n < 2 ^ 31) : okI n (nI a + (-1)) = decide (0 < a) := by
  by_cases h : 0 < a
  · rw [m1N h, okI_n (by omega) (by omega), decide_eq_true h]
  · have : a = 0 := by omega
    subst this
    rw [decide_eq_false h]
    exact okI_m (by rfl)
/-- the pixel beside one, as the reference tells it -/
def wy (w : Nat) : Nat := if w < 2 then w + 2 else w - 2
def mbI (p w : Nat) : Int32 := if nbOK p (wy w) = true then nI (nbP p (wy w)) else -6
theorem mbI_t {p w : Nat} (h : nbOK p (wy w) = true) : mbI p w = nI (nbP p (wy w)) := if_pos h
theorem mbI_f {p w : Nat} (h : nbOK p (wy w) = false) : mbI p w = -6 := if_neg (by rw [h]; decide)
theorem wy_lt {w : Nat} (h : w < 4) : wy w < 4 := by unfold wy; split <;> omega
theorem wy_wy {w : Nat} (h : w < 4) : wy (wy w) = w := by unfold wy; split <;> split <;> omega






theorem gr_max {a b : Nat} (ha : a < 2 ^ 31) (hb : b < 2 ^ 31) : (if nI b < nI a then nI a else nI b) = nI (max a b) := by
  by_cases h : b < a
  · rw [if_pos ((nI_ltI hb ha).mpr h), Nat.max_eq_left (by omega)]
  · rw [if_neg (fun e => h ((nI_ltI hb ha).mp e)), Nat.max_eq_right (by omega)]
theorem mm_gpos {a b : Nat} (ha : a < 2 ^ 30) (hb : b < 2 ^ 30) : (if nI a - nI b < nI 0 then nI 0 else nI a - nI b) = nI (a - b) := by
  have e := pk_sub_toInt ha hb
  have e0 : (nI 0).toInt = 0 := rfl
  by_cases h : a < b
  · rw [if_pos (by rw [i_lt, e, e0]; omega), show a - b = 0 by omega]
  · rw [if_neg (by rw [i_lt, e, e0]; omega), pk_sub (by omega)]







