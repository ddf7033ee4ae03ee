/-! the reference: what if -/
abbrev RG : Type := (Nat → Nat) × (Nat → Nat) × (Nat → Nat) × (Nat → Nat) × (Nat → Nat) × (Nat → Nat) × Nat
def inS (k : Int32) : Bool := decide (((2 : Nat) : Int) ≤ k.toInt ∧ k.toInt ≤ ((4 : Nat) : Int))
theorem upN_id {f : Nat → Nat} {k : Nat} : upN f k (f k) = f := by
  funext j
  unfold upN
  by_cases h : j = k
  · rw [if_pos h, h]
  · rw [if_neg h]
theorem ordN_s {x : SC} (h : SInv x) {k v : Nat} (hk : 2 ≤ k) : ordN x k v = true := by
  unfold ordN
  rw [if_neg (by omega), if_neg (by omega)]
  exact decide_eq_true h.lt
theorem hv_s {k v : Nat} (h1 : 2 ≤ k) (h2 : k ≤ 4) (hv2 : v ≤ 16) : v ≤ hv k := by
  rcases (show k = 2 ∨ k = 3 ∨ k = 4 by omega) with rfl | rfl | rfl <;> exact hv2
theorem fla_uu (x : SC) {k v w : Nat} (hk : k < 6) (j : Nat) : upd (nA (fla (upN (scS x) k v, x.2))) k (nI w) j = nA (fla (upN (scS x) k w, x.2)) j := by
  rw [fla_uS (upN (scS x) k v, x.2) hk j]
  have e : upN (upN (scS x) k v) k w = upN (scS x) k w := by
    funext i
    unfold upN
    by_cases h : i = k
    · rw [if_pos h, if_pos h]
    · rw [if_neg h, if_neg h, if_neg h]
  show nA (fla (upN (upN (scS x) k v) k w, x.2)) j = _
  rw [e]
