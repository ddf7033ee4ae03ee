/-! pure lemmas for the law: the ring against the history, scenes that stay good -/
def RH (o n : Nat) (rg hh : Nat → SC) : Prop := ∀ k, k < n → hh k = rg ((o + k) % 6)
theorem onN_lt {o n : Nat} (h : o < 6) : onN o n < 6 := by unfold onN; split <;> omega
theorem RH.rem {o n : Nat} {rg hh : Nat → SC} {x : SC} (ho : o < 6) (hn : n ≤ 6) (h : RH o n rg hh) : RH (onN o n) (hlN n) (rgu rg ((o + n) % 6) x) (hhN x n hh) := by
  intro k hk
  unfold hlN at hk
  unfold onN hhN rgu
  by_cases e : n = 6
  · subst e
    rw [if_pos rfl] at hk
    rw [if_pos rfl, if_pos rfl]
    by_cases c : k = 5
    · subst c
      rw [if_pos (by omega)]
      exact (if_pos (by omega)).symm
    · rw [if_neg (by omega), show ((o + 1) % 6 + k) % 6 = (o + (k + 1)) % 6 by omega, ← h (k + 1) (by omega)]
      exact (if_neg (by omega)).symm
  · rw [if_neg e] at hk
    rw [if_neg e, if_neg e]
    by_cases c : k = n
    · subst c
      rw [if_pos rfl]
      exact (if_pos rfl).symm
    · rw [if_neg (by omega), ← h k (by omega)]
      exact (if_neg (by omega)).symm
theorem RH.back {o n : Nat} {rg hh : Nat → SC} (h : RH o (n + 1) rg hh) : RH o n rg hh ∧ hh n = rg ((o + n) % 6) := ⟨fun k hk => h k (by omega), h n (by omega)⟩
theorem RH.inv {o n : Nat} {rg : Nat → SC} {x : SC} (hx : SInv x) (h : ∀ j, j < 6 → SInv (rg j)) : ∀ j, j < 6 → SInv (rgu rg ((o + n) % 6) x j) := by
  intro j hj
  unfold rgu
  split
  · exact hx
  · exact h j hj
theorem SInv.fr {x : SC} (h : SInv x) {f : Nat → Nat} (hf : ∀ j, j < 48 → f j < 4096) : SInv (scS x, f, x.2.2) := ⟨h.1, h.2.1, hf, h.2.2.2.1, h.2.2.2.2.1, h.2.2.2.2.2⟩
theorem SInv.bk {x : SC} (h : SInv x) {f : Nat → Nat} (hf : ∀ j, j < 48 → f j < 4096) : SInv (scS x, scF x, f, x.2.2.2) := ⟨h.1, h.2.1, h.2.2.1, hf, h.2.2.2.2.1, h.2.2.2.2.2⟩
theorem upN_in {f : Nat → Nat} {p c b : Nat} (hf : ∀ j, j < 48 → f j < b) (hc : c < b) : ∀ j, j < 48 → upN f p c j < b := by
  intro j hj
  unfold upN
  split
  · exact hc
  · exact hf j hj
theorem filR_in {f : Nat → Nat} {p r c b : Nat} (hf : ∀ j, j < 48 → f j < b) (hc : c < b) : ∀ j, j < 48 → filR p r c f j < b := by
  intro j hj
  unfold filR
  split
  · exact hc
  · exact hf j hj
theorem rdF_in {tl : Nat} {tx : Nat → Nat} {n h : Nat} (hG : Gd tl tx n) {f : Nat → Nat} (hf : ∀ j, j < 48 → f j < 4096) : ∀ i, i ≤ n → ∀ j, j < 48 → rdF tl tx h f i j < 4096
  | 0, _ => hf
  | i + 1, hi => by
    have ih := rdF_in hG (h := h) hf i (by omega)
    by_cases e : tx (stp tx i) = 46
    · rw [rdF_d e]; exact ih
    · rw [rdF_n e]; exact upN_in ih (cv3_lt ((hG.2.2 i (by omega)).n e))
theorem SInv.kp {x : SC} (h : SInv x) : SInv (scS x, cmpF x, scB x, zN, scC x) := ⟨h.1, h.2.1, fun j _ => cmpF_lt x j, h.2.2.2.1, fun j _ => Nat.zero_le _, h.2.2.2.2.2⟩
theorem SInv.s00 : SInv sc00 := ⟨by decide, by decide, fun j _ => (by decide : 0 < 4096), fun j _ => (by decide : 0 < 4096), fun j _ => Nat.zero_le _, by decide⟩
