/-! THE PICTURES OF STATE: a scene, what follows from it for each pixel -/
def upN (f : Nat → Nat) (k v : Nat) : Nat → Nat := fun j => if j = k then v else f j
theorem upN_s {f : Nat → Nat} {k v : Nat} : upN f k v k = v := if_pos rfl
theorem upN_n {f : Nat → Nat} {k v j : Nat} (h : j ≠ k) : upN f k v j = f j := if_neg h
theorem upN_a {f : Nat → Nat} {k v : Nat} (j : Nat) : upd (nA f) k (nI v) j = nA (upN f k v) j := by
  unfold upd upN
  show (if j = k then nI v else nI (f j)) = nI (if j = k then v else f j)
  split <;> rfl
/-- the first i by a, the others by b -/
def mxn (i : Nat) (a b : Nat → Nat) : Nat → Nat := fun j => if j < i then a j else b j
theorem mxn_0 {a b : Nat → Nat} (j : Nat) : nA b j = nA (mxn 0 a b) j := by simp [mxn, nA]
theorem mxn_n {n : Nat} {a b : Nat → Nat} (j : Nat) (h : j < n) : nA (mxn n a b) j = nA a j := by simp [mxn, nA, h]
theorem mxn_u {i v : Nat} {a b : Nat → Nat} (h : v = a i) (j : Nat) : upd (nA (mxn i a b)) i (nI v) j = nA (mxn (i + 1) a b) j := by
  rw [upN_a]
  show nI _ = nI _
  congr 1
  unfold mxn upN
  by_cases e : j = i
  · subst e; rw [if_pos rfl, if_pos (by omega)]; exact h
  · rw [if_neg e]
    show (if j < i then a j else b j) = _
    by_cases e2 : j < i
    · rw [if_pos e2, if_pos (by omega)]
    · rw [if_neg e2, if_neg (by omega)]
theorem mxn_s {i : Nat} {a b : Nat → Nat} (h : b i = a i) (j : Nat) : nA (mxn i a b) j = nA (mxn (i + 1) a b) j := by
  show nI _ = nI _
  congr 1
  unfold mxn
  by_cases e : j = i
  · subst e; rw [if_neg (by omega), if_pos (by omega)]; exact h
  · by_cases e2 : j < i
    · rw [if_pos e2, if_pos (by omega)]
    · rw [if_neg e2, if_neg (by omega)]
theorem mxn_at {i : Nat} {a b : Nat → Nat} : mxn (i + 1) a b i = a i := by simp [mxn]
theorem mxn_hi {i j : Nat} {a b : Nat → Nat} (h : i ≤ j) : mxn i a b j = b j := if_neg (by omega)
theorem mxn_lo {i j : Nat} {a b : Nat → Nat} (h : j < i) : mxn i a b j = a j := if_pos h
def anyN : Nat → (Nat → Bool) → Bool
  | 0, _ => false
  | n + 1, p => anyN n p || p n
theorem anyN_t {p : Nat → Bool} : ∀ {n : Nat}, anyN n p = true ↔ ∃ k, k < n ∧ p k = true
  | 0 => by simp [anyN]
  | n + 1 => by
    rw [anyN, Bool.or_eq_true, anyN_t]
    constructor
    · rintro (⟨k, h1, h2⟩ | h)
      · exact ⟨k, by omega, h2⟩
      · exact ⟨n, by omega, h⟩
    · rintro ⟨k, h1, h2⟩
      rcases Nat.lt_or_ge k n with h | h
      · exact Or.inl ⟨k, h, h2⟩
      · exact Or.inr (by rw [show n = k by omega]; exact h2)
abbrev SC : Type := (Nat → Nat) × (Nat → Nat) × (Nat → Nat) × (Nat → Nat) × Nat
abbrev scS (x : SC) : Nat → Nat := x.1
abbrev scF (x : SC) : Nat → Nat := x.2.1
abbrev scB (x : SC) : Nat → Nat := x.2.2.1
abbrev scG (x : SC) : Nat → Nat := x.2.2.2.1
abbrev scC (x : SC) : Nat := x.2.2.2.2
def SInv (x : SC) : Prop := (∀ j, j < 6 → scS x j ≤ hv j) ∧ scS x 0 < scS x 1 ∧ (∀ j, j < 48 → scF x j < 4096) ∧ (∀ j, j < 48 → scB x j < 4096) ∧ (∀ j, j < 48 → scG x j ≤ 1) ∧ scC x < 4096
theorem SInv.s0 {x : SC} (h : SInv x) : scS x 0 ≤ 45 := h.1 0 (by decide)
theorem SInv.s1 {x : SC} (h : SInv x) : scS x 1 ≤ 45 := h.1 1 (by decide)
theorem SInv.s2 {x : SC} (h : SInv x) : scS x 2 ≤ 16 := h.1 2 (by decide)
theorem SInv.s3 {x : SC} (h : SInv x) : scS x 3 ≤ 16 := h.1 3 (by decide)
theorem SInv.s4 {x : SC} (h : SInv x) : scS x 4 ≤ 16 := h.1 4 (by decide)
theorem SInv.s5 {x : SC} (h : SInv x) : scS x 5 ≤ 1 := h.1 5 (by decide)
theorem SInv.lt {x : SC} (h : SInv x) : scS x 0 < scS x 1 := h.2.1
theorem SInv.f {x : SC} (h : SInv x) : ∀ j, j < 48 → scF x j < 4096 := h.2.2.1
theorem SInv.b {x : SC} (h : SInv x) : ∀ j, j < 48 → scB x j < 4096 := h.2.2.2.1
theorem SInv.g {x : SC} (h : SInv x) : ∀ j, j < 48 → scG x j ≤ 1 := h.2.2.2.2.1
theorem SInv.c {x : SC} (h : SInv x) : scC x < 4096 := h.2.2.2.2.2
theorem SInv.s {x : SC} (h : SInv x) {j : Nat} (hj : j < 6) : scS x j ≤ 45 := by
  have h1 := h.1 j hj
  have h2 : ∀ j, j < 6 → hv j ≤ 45 := by decide
  exact Nat.le_trans h1 (h2 j hj)
def rawV (near far d : Nat) : Nat := if d ≤ near then 0 else if far ≤ d then 16 else 16 * (d - near) / (far - near)
theorem rawV_le {near far d : Nat} : rawV near far d ≤ 16 := by
  unfold rawV
  split
  · omega
  · split
    · omega
    · apply Nat.le_of_lt_succ
      rw [Nat.div_lt_iff_lt_mul (by omega)]
      have : 16 * (d - near) < 17 * (far - near) := by omega
      omega
def rawF (x : SC) (p : Nat) : Nat := rawV (scS x 0) (scS x 1) (dist (scF x p) (scC x))
theorem rawF_le (x : SC) (p : Nat) : rawF x p ≤ 16 := rawV_le
/-- from which pixels one comes to the edge within n steps -/
def opS (r : Nat → Nat) : Nat → Nat → Bool
  | 0, p => decide (r p < 16) && edge p
  | n + 1, p => opS r n p || (decide (r p < 16) && anyN 4 (fun k => nbOK p k && opS r n (nbP p k)))
def Opn (r : Nat → Nat) (p : Nat) : Prop := ∃ n, opS r n p = true
theorem Opn.lt {r : Nat → Nat} {p : Nat} (h : Opn r p) : r p < 16 := by
  obtain ⟨n, h⟩ := h
  induction n with
  | zero => simp only [opS, Bool.and_eq_true, decide_eq_true_eq] at h; exact h.1
  | succ n ih =>
    simp only [opS, Bool.or_eq_true, Bool.and_eq_true, decide_eq_true_eq] at h
    rcases h with h | h
    · exact ih h
    · exact h.1
theorem Opn.edge {r : Nat → Nat} {p : Nat} (h1 : r p < 16) (h2 : edge p = true) : Opn r p := ⟨0, by simp [opS, h1, h2]⟩
theorem Opn.step {r : Nat → Nat} {p k : Nat} (h1 : r p < 16) (hk : k < 4) (h2 : nbOK p k = true) (h3 : Opn r (nbP p k)) : Opn r p := by
  obtain ⟨n, h3⟩ := h3
  refine ⟨n + 1, ?_⟩
  have : anyN 4 (fun k => nbOK p k && opS r n (nbP p k)) = true := anyN_t.mpr ⟨k, hk, by simp [h2, h3]⟩
  simp [opS, h1, this]
/-- what holds the edge and goes with each step holds all that is open -/
theorem Opn.ind {r : Nat → Nat} {S : Nat → Prop} (h0 : ∀ p, p < 48 → r p < 16 → edge p = true → S p) (h1 : ∀ p k, p < 48 → k < 4 → r p < 16 → nbOK p k = true → S (nbP p k) → S p) : ∀ p, p < 48 → Opn r p → S p := by
  have key : ∀ n p, p < 48 → opS r n p = true → S p := by
    intro n
    induction n with
    | zero =>
      intro p hp h
      simp only [opS, Bool.and_eq_true, decide_eq_true_eq] at h
      exact h0 p hp h.1 h.2
    | succ n ih =>
      intro p hp h
      simp only [opS, Bool.or_eq_true, Bool.and_eq_true, decide_eq_true_eq] at h
      rcases h with h | ⟨h2, h3⟩
      · exact ih p hp h
      · obtain ⟨k, hk, h4⟩ := anyN_t.mp h3
        simp only [Bool.and_eq_true] at h4
        exact h1 p k hp hk h2 h4.1 (ih _ (nbP_lt hp h4.1) h4.2)
  exact fun p hp ⟨n, h⟩ => key n p hp h
noncomputable def opqF (x : SC) (p : Nat) : Nat := @ite _ (scS x 5 = 1 ∧ ¬ Opn (rawF x) p) (Classical.propDecidable _) 16 (rawF x p)
theorem opqF_le (x : SC) (p : Nat) : opqF x p ≤ 16 := by
  have := rawF_le x p
  unfold opqF
  split <;> omega
def nbHas (o : Nat → Nat) (p v : Nat) : Bool := anyN 4 (fun k => nbOK p k && decide (o (nbP p k) = v))
noncomputable def knU (o : Nat → Nat) (p : Nat) : Nat := if o p = 0 then 0 else if o p = 16 then 3 else if (nbHas o p 16 && nbHas o p 0) = true then 2 else 1
noncomputable def kndF (x : SC) (p : Nat) : Nat := if scG x p = 1 then 4 else knU (opqF x) p
theorem kndF_le (x : SC) (p : Nat) : kndF x p ≤ 4 := by
  unfold kndF knU
  split
  · omega
  · split
    · omega
    · split
      · omega
      · split <;> omega
def splF (x : SC) (p : Nat) : Nat := spl (scF x p) (mainP (scC x))
def shr (x : SC) (k : Nat) : Nat := if k = 0 then 0 else if k = 2 then scS x 3 else if k = 4 then scS x 4 else scS x 2
theorem shr_le {x : SC} (h : SInv x) (k : Nat) : shr x k ≤ 16 := by
  have h1 := h.s2
  have h2 := h.s3
  have h3 := h.s4
  unfold shr
  split
  · omega
  · split
    · omega
    · split <;> omega
noncomputable def tknF (x : SC) (p : Nat) : Nat := splF x p * shr x (kndF x p) / 16
noncomputable def clnF (x : SC) (p : Nat) : Nat := scF x p - tknF x p * 2 ^ (4 * (2 - mainP (scC x)))
noncomputable def cmpF (x : SC) (p : Nat) : Nat := cmpC (clnF x p) (scB x p) (opqF x p)
theorem tknF_le {x : SC} (h : SInv x) (p : Nat) : tknF x p ≤ splF x p := by
  have h1 := shr_le h (kndF x p)
  unfold tknF
  apply Nat.div_le_of_le_mul
  rw [Nat.mul_comm 16]
  exact Nat.mul_le_mul_left _ h1
theorem spl_le (c m : Nat) : spl c m ≤ P c m := by unfold spl; omega
theorem P_mul_le (c k : Nat) : P c k * 2 ^ (4 * (2 - k)) ≤ c := by
  have h1 : P c k ≤ c / 2 ^ (4 * (2 - k)) := Nat.mod_le _ _
  exact Nat.le_trans (Nat.mul_le_mul_right _ h1) (Nat.div_mul_le_self _ _)
theorem tkn_mul_le {x : SC} (h : SInv x) (p : Nat) : tknF x p * 2 ^ (4 * (2 - mainP (scC x))) ≤ scF x p :=
  Nat.le_trans (Nat.mul_le_mul_right _ (Nat.le_trans (tknF_le h p) (spl_le _ _))) (P_mul_le _ _)
theorem clnF_lt {x : SC} (h : SInv x) {p : Nat} (hp : p < 48) : clnF x p < 4096 := Nat.lt_of_le_of_lt (Nat.sub_le _ _) (h.f p hp)
theorem cmpF_lt {x : SC} (p : Nat) : cmpF x p < 4096 := cmpC_lt (opqF_le x p)
theorem splF_lt (x : SC) (p : Nat) : splF x p < 16 := spl_lt _ _
theorem tknF_lt {x : SC} (h : SInv x) (p : Nat) : tknF x p < 16 := Nat.lt_of_le_of_lt (tknF_le h p) (splF_lt x p)
abbrev scW (G : VC) (a : Nat → Nat) (x : SC) : va_W := [(a 0, kO 2 [.ref (a 1), .ref (a 2), .ref (a 3), .ref (a 4), .int (nI (scC x))]), (a 1, kA (gI G) 6 (nA (scS x))), (a 2, kA (gI G) 48 (nA (scF x))), (a 3, kA (gI G) 48 (nA (scB x))), (a 4, kA (gZ G) 48 (nA (scG x)))]
abbrev vwW (G : VC) (a : Nat → Nat) (r o k s t c m e q : Nat → Nat) (n : Nat) : va_W := [(a 0, kO 3 [.ref (a 1), .ref (a 2), .ref (a 3), .ref (a 4), .ref (a 5), .ref (a 6), .ref (a 7), .ref (a 8), .ref (a 9), .int (nI n)]), (a 1, kA (gI G) 48 (nA r)), (a 2, kA (gI G) 48 (nA o)), (a 3, kA (gI G) 48 (nA k)), (a 4, kA (gI G) 48 (nA s)), (a 5, kA (gI G) 48 (nA t)), (a 6, kA (gI G) 48 (nA c)), (a 7, kA (gI G) 48 (nA m)), (a 8, kA (gZ G) 48 (nA e)), (a 9, kA (gI G) 48 (nA q))]
