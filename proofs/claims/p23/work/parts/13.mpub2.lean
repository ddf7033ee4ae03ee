/-! the reference: public methods that look at what is worked out -/
noncomputable def pxN (x : SC) (p : Nat) : Nat → Nat
  | 0 => scF x p
  | 1 => scB x p
  | 2 => dist (scF x p) (scC x)
  | 3 => rawF x p
  | 4 => opqF x p
  | 5 => kndF x p
  | 6 => splF x p
  | 7 => tknF x p
  | 8 => clnF x p
  | _ => cmpF x p
noncomputable def pxA (x : SC) (p : Nat) (w : Int32) : Int32 := if okI 10 w = true then nI (pxN x p (nN w)) else -2
theorem pxA_k (x : SC) (p : Nat) {k : Nat} (h : k < 10) : nI (pxN x p k) = pxA x p (nI k) := by
  unfold pxA
  rw [if_pos (okI_n h (by omega)), nN_nI (by omega)]
theorem sw10 (k : Int32) : k = nI 0 ∨ k = nI 1 ∨ k = nI 2 ∨ k = nI 3 ∨ k = nI 4 ∨ k = nI 5 ∨ k = nI 6 ∨ k = nI 7 ∨ k = nI 8 ∨ k = nI 9 ∨ (k.toInt < 0 ∨ 9 < k.toInt) := by
  simp only [i_eq, nI_toInt (show 0 < 2 ^ 31 by decide), nI_toInt (show 1 < 2 ^ 31 by decide), nI_toInt (show 2 < 2 ^ 31 by decide), nI_toInt (show 3 < 2 ^ 31 by decide), nI_toInt (show 4 < 2 ^ 31 by decide), nI_toInt (show 5 < 2 ^ 31 by decide), nI_toInt (show 6 < 2 ^ 31 by decide), nI_toInt (show 7 < 2 ^ 31 by decide), nI_toInt (show 8 < 2 ^ 31 by decide), nI_toInt (show 9 < 2 ^ 31 by decide)]
  omega
theorem okI_out {n : Nat} {k : Int32} (h : k.toInt < 0 ∨ (n : Int) ≤ k.toInt) : okI n k = false := by
  simp only [okI, decide_eq_false_iff_not]
  omega
theorem okI_no {n : Nat} {k : Int32} (h : okI n k = false) : k.toInt < 0 ∨ (n : Int) ≤ k.toInt := by
  simp only [okI, decide_eq_false_iff_not] at h
  omega
theorem inL_raw (x : Int32) {b c : Nat} (hb : b < 2 ^ 31) (hc : c < 2 ^ 31) : inL x.toInt64 (lN b) (lN c) = decide ((b : Int) ≤ x.toInt ∧ x.toInt ≤ c) := by
  unfold inL
  rw [decide_eq_decide, l_le, l_le, i_wide, lN_toInt hb, lN_toInt hc]
theorem inL_LN {a b c : Nat} (ha : a < 2 ^ 31) (hb : b < 2 ^ 31) (hc : c < 2 ^ 31) : inL (nI a).toInt64 (lN b) (lN c) = decide (b ≤ a ∧ a ≤ c) := by
  rw [inL_raw _ hb hc, nI_toInt ha, decide_eq_decide]
  omega
noncomputable def cnN (x : SC) (tl hl : Nat) (k : Nat) : Nat := if k < 6 then scS x k else if k = 6 then scC x else if k < 12 then sumN 48 (fun j => bN (decide (kndF x j = k - 7))) else if k < 18 then sumN 48 (ovf x k) else if k = 18 then sumN 48 (scG x) else if k = 19 then tl else hl
theorem cnN_lo (x : SC) (tl hl : Nat) {k : Nat} (h : k ≤ 6) : fla x k = cnN x tl hl k := by
  unfold cnN
  by_cases h6 : k < 6
  · rw [if_pos h6]; exact fla_S x h6
  · rw [if_neg h6, if_pos (by omega), show k = 6 by omega]; rfl
/-- the bits of the places below n where q holds -/
def msk (q : Nat → Bool) : Nat → Int32
  | 0 => nI 0
  | n + 1 => if q n = true then msk q n ||| nI (1 * 2 ^ n) else msk q n
theorem or_0 (x : Int32) : x ||| nI 0 = x := Int32.or_zero
noncomputable def clrN (x : SC) (p : Nat) : Nat := sumN 48 (fun j => bN (decide (kndF (scS x, scF x, scB x, scG x, scF x p) j = 0)))
noncomputable def bst (x : SC) : Nat → Nat × Int32
  | 0 => (0, -1)
  | n + 1 => if nI (clrN x n) ≤ (bst x n).2 then bst x n else (n, nI (clrN x n))
theorem SInv.scr {x : SC} (h : SInv x) {c : Nat} (hc : c < 4096) : SInv (scS x, scF x, scB x, scG x, c) := ⟨h.1, h.2.1, h.2.2.1, h.2.2.2.1, h.2.2.2.2.1, hc⟩
theorem SInv.set {x : SC} (h : SInv x) {k v : Nat} (hv2 : v ≤ hv k) (ho : ordN x k v = true) : SInv (upN (scS x) k v, x.2) := by
  refine ⟨fun j hj => ?_, ?_, h.2.2.1, h.2.2.2.1, h.2.2.2.2.1, h.2.2.2.2.2⟩
  · show upN (scS x) k v j ≤ hv j
    unfold upN
    split
    · rename_i e; rw [e]; exact hv2
    · exact h.1 j hj
  · have ho := of_decide_eq_true ho
    show upN (scS x) k v 0 < upN (scS x) k v 1
    unfold upN
    by_cases h0 : k = 0
    · subst h0
      rw [if_pos rfl] at ho ⊢
      rw [if_neg (by decide)] at ho
      rw [if_neg (by decide)]
      exact ho
    · rw [if_neg h0] at ho
      rw [if_neg (Ne.symm h0)]
      by_cases h1 : k = 1
      · subst h1
        rw [if_pos rfl] at ho ⊢
        exact ho
      · rw [if_neg h1] at ho
        rw [if_neg (Ne.symm h1)]
        exact ho
theorem fla_bk (x : SC) {k v : Nat} (hk : k < 6) (j : Nat) : upd (nA (fla (upN (scS x) k v, x.2))) k (nI (scS x k)) j = nA (fla x) j := by
  have h1 := fla_uS (upN (scS x) k v, x.2) (v := scS x k) hk j
  rw [h1]
  have e : upN (upN (scS x) k v) k (scS x k) = scS x := by
    funext i
    unfold upN
    by_cases h : i = k
    · rw [if_pos h, h]
    · rw [if_neg h, if_neg h]
  show nA (fla (upN (upN (scS x) k v) k (scS x k), x.2)) j = _
  rw [e]
/-- the spill that is left with a share k of v -/
noncomputable def lefN (x : SC) (k v : Nat) : Nat := sumN 48 (fun j => spl (cmpF (upN (scS x) k v, x.2) j) (mainP (scC x)))
noncomputable def bsh (x : SC) (k : Nat) : Nat → Nat × Nat
  | 0 => (0, 0)
  | n + 1 => if n = 0 ∨ lefN x k n < (bsh x k n).2 then (n, lefN x k n) else bsh x k n
theorem lefN_le (x : SC) (k v : Nat) : lefN x k v ≤ 720 := by
  have := sumN_le (n := 48) (f := fun j => spl (cmpF (upN (scS x) k v, x.2) j) (mainP (scC x))) (b := 15) (fun j _ => Nat.le_of_lt_succ (spl_lt _ _))
  unfold lefN
  omega
theorem bsh_le (x : SC) (k : Nat) : ∀ n, (bsh x k n).2 ≤ 720 ∧ (bsh x k n).1 ≤ n
  | 0 => ⟨by show 0 ≤ 720; omega, Nat.le_refl _⟩
  | n + 1 => by
    have h := bsh_le x k n
    rw [bsh]
    split
    · exact ⟨lefN_le x k n, by show n ≤ n + 1; omega⟩
    · exact ⟨h.1, by omega⟩
