/-! THE MIRROR: left and right changed -/
def mP (p : Nat) : Nat := 8 * (p / 8) + (7 - p % 8)
theorem mP_div (p : Nat) : mP p / 8 = p / 8 := by unfold mP; omega
theorem mP_mod (p : Nat) : mP p % 8 = 7 - p % 8 := by unfold mP; omega
theorem mP_mP (p : Nat) : mP (mP p) = p := by unfold mP; omega
theorem mP_lt {p : Nat} (h : p < 48) : mP p < 48 := by unfold mP; omega
theorem mP_eq {p q : Nat} : (mP p = q) ↔ (p = mP q) := ⟨fun h => by rw [← h, mP_mP], fun h => by rw [h, mP_mP]⟩
def mF (f : Nat → Nat) : Nat → Nat := fun j => f (mP j)
theorem mF_mF (f : Nat → Nat) : mF (mF f) = f := by funext j; unfold mF; rw [mP_mP]
theorem mF_up {f : Nat → Nat} {k v : Nat} : mF (upN f k v) = upN (mF f) (mP k) v := by
  funext j
  unfold mF upN
  by_cases h : mP j = k
  · rw [if_pos h, if_pos (mP_eq.mp h)]
  · rw [if_neg h, if_neg (fun e => h (mP_eq.mpr e))]
abbrev miS (x : SC) : SC := (scS x, mF (scF x), mF (scB x), mF (scG x), scC x)
theorem miS_inv {x : SC} (h : SInv x) : SInv (miS x) := ⟨h.1, h.2.1, fun j hj => h.f _ (mP_lt hj), fun j hj => h.b _ (mP_lt hj), fun j hj => h.g _ (mP_lt hj), h.c⟩
theorem sumN_8 (g : Nat → Nat) (n : Nat) : sumN (n + 8) g = sumN n g + (g n + g (n + 1) + g (n + 2) + g (n + 3) + g (n + 4) + g (n + 5) + g (n + 6) + g (n + 7)) := by
  show sumN n g + g n + g (n + 1) + g (n + 2) + g (n + 3) + g (n + 4) + g (n + 5) + g (n + 6) + g (n + 7) = _
  omega
theorem sumN_m8 (f : Nat → Nat) : ∀ k, sumN (8 * k) (mF f) = sumN (8 * k) f
  | 0 => rfl
  | k + 1 => by
    have e : ∀ i, i < 8 → mF f (8 * k + i) = f (8 * k + (7 - i)) := fun i hi => by
      unfold mF mP
      congr 1
      omega
    rw [show 8 * (k + 1) = 8 * k + 8 from rfl, sumN_8, sumN_8, sumN_m8 f k]
    have e0 := e 0 (by decide)
    rw [show 8 * k + 0 = 8 * k from rfl] at e0
    rw [e0, e 1 (by decide), e 2 (by decide), e 3 (by decide), e 4 (by decide), e 5 (by decide), e 6 (by decide), e 7 (by decide)]
    show _ + (f (8 * k + 7) + f (8 * k + 6) + f (8 * k + 5) + f (8 * k + 4) + f (8 * k + 3) + f (8 * k + 2) + f (8 * k + 1) + f (8 * k)) = _
    omega
theorem sumN_m (f : Nat → Nat) : sumN 48 (mF f) = sumN 48 f := sumN_m8 f 6
theorem sumN_mm {f g : Nat → Nat} (h : ∀ j, f j = g (mP j)) : sumN 48 f = sumN 48 g := by
  rw [show f = mF g from funext h]
  exact sumN_m g
theorem edge_m (p : Nat) : edge (mP p) = edge p := by
  unfold edge
  rw [mP_mod, mP_div, decide_eq_decide]
  omega
theorem nb_m0 (p : Nat) (Q : Nat → Bool) : (nbOK p 0 && Q (mP (nbP p 0))) = (nbOK (mP p) 0 && Q (nbP (mP p) 0)) := by
  show (decide (8 ≤ p) && Q (mP (p - 8))) = (decide (8 ≤ mP p) && Q (mP p - 8))
  by_cases h : 8 ≤ p
  · rw [decide_eq_true h, decide_eq_true (show 8 ≤ mP p by unfold mP; omega), show mP (p - 8) = mP p - 8 by unfold mP; omega]
  · rw [decide_eq_false h, decide_eq_false (show ¬ 8 ≤ mP p by unfold mP; omega)]; rfl
theorem nb_m1 (p : Nat) (Q : Nat → Bool) : (nbOK p 1 && Q (mP (nbP p 1))) = (nbOK (mP p) 1 && Q (nbP (mP p) 1)) := by
  show (decide (p < 40) && Q (mP (p + 8))) = (decide (mP p < 40) && Q (mP p + 8))
  by_cases h : p < 40
  · rw [decide_eq_true h, decide_eq_true (show mP p < 40 by unfold mP; omega), show mP (p + 8) = mP p + 8 by unfold mP; omega]
  · rw [decide_eq_false h, decide_eq_false (show ¬ mP p < 40 by unfold mP; omega)]; rfl
theorem nb_m2 (p : Nat) (Q : Nat → Bool) : (nbOK p 2 && Q (mP (nbP p 2))) = (nbOK (mP p) 3 && Q (nbP (mP p) 3)) := by
  show (decide (0 < p % 8) && Q (mP (p - 1))) = (decide (mP p % 8 < 7) && Q (mP p + 1))
  by_cases h : 0 < p % 8
  · rw [decide_eq_true h, decide_eq_true (show mP p % 8 < 7 by rw [mP_mod]; omega), show mP (p - 1) = mP p + 1 by unfold mP; omega]
  · rw [decide_eq_false h, decide_eq_false (show ¬ mP p % 8 < 7 by rw [mP_mod]; omega)]; rfl
theorem nb_m3 (p : Nat) (Q : Nat → Bool) : (nbOK p 3 && Q (mP (nbP p 3))) = (nbOK (mP p) 2 && Q (nbP (mP p) 2)) := by
  show (decide (p % 8 < 7) && Q (mP (p + 1))) = (decide (0 < mP p % 8) && Q (mP p - 1))
  by_cases h : p % 8 < 7
  · rw [decide_eq_true h, decide_eq_true (show 0 < mP p % 8 by rw [mP_mod]; omega), show mP (p + 1) = mP p - 1 by unfold mP; omega]
  · rw [decide_eq_false h, decide_eq_false (show ¬ 0 < mP p % 8 by rw [mP_mod]; omega)]; rfl
theorem any4 (q : Nat → Bool) : anyN 4 q = (q 0 || q 1 || q 2 || q 3) := by simp [anyN]
theorem any_m (p : Nat) (Q : Nat → Bool) : anyN 4 (fun k => nbOK p k && Q (mP (nbP p k))) = anyN 4 (fun k => nbOK (mP p) k && Q (nbP (mP p) k)) := by
  rw [any4, any4, nb_m0, nb_m1, nb_m2, nb_m3, Bool.or_assoc, Bool.or_comm (nbOK (mP p) 3 && _), ← Bool.or_assoc]
theorem opS_m (r : Nat → Nat) : ∀ n p, opS (mF r) n p = opS r n (mP p)
  | 0, p => by
    show (decide (r (mP p) < 16) && edge p) = (decide (r (mP p) < 16) && edge (mP p))
    rw [edge_m]
  | n + 1, p => by
    rw [opS, opS, opS_m r n p]
    rw [show (fun k => nbOK p k && opS (mF r) n (nbP p k)) = (fun k => nbOK p k && opS r n (mP (nbP p k))) from funext fun k => by rw [opS_m r n]]
    rw [any_m p (opS r n)]
    rfl
theorem Opn_m (r : Nat → Nat) (p : Nat) : Opn (mF r) p ↔ Opn r (mP p) := ⟨fun ⟨n, h⟩ => ⟨n, (opS_m r n p).symm.trans h⟩, fun ⟨n, h⟩ => ⟨n, (opS_m r n p).trans h⟩⟩
theorem raw_m (x : SC) : rawF (miS x) = mF (rawF x) := rfl
theorem opq_m (x : SC) : opqF (miS x) = mF (opqF x) := by
  funext p
  show opqF (miS x) p = opqF x (mP p)
  unfold opqF
  rw [raw_m]
  have e : (scS (miS x) 5 = 1 ∧ ¬ Opn (mF (rawF x)) p) ↔ (scS x 5 = 1 ∧ ¬ Opn (rawF x) (mP p)) := by rw [Opn_m]
  by_cases h : scS x 5 = 1 ∧ ¬ Opn (rawF x) (mP p)
  · rw [if_pos h, if_pos (e.mpr h)]
  · rw [if_neg h, if_neg (fun q => h (e.mp q))]; rfl
theorem nbHas_m (o : Nat → Nat) (p v : Nat) : nbHas (mF o) p v = nbHas o (mP p) v := any_m p (fun j => decide (o j = v))
theorem knU_m (o : Nat → Nat) (p : Nat) : knU (mF o) p = knU o (mP p) := by
  unfold knU
  rw [nbHas_m, nbHas_m]
  rfl
theorem knd_m (x : SC) : kndF (miS x) = mF (kndF x) := by
  funext p
  show kndG (miS x) (opqF (miS x)) p = kndG x (opqF x) (mP p)
  rw [opq_m]
  unfold kndG
  rw [knU_m]
  rfl
theorem spl_m (x : SC) : splF (miS x) = mF (splF x) := rfl
theorem tkn_m (x : SC) : tknF (miS x) = mF (tknF x) := by
  funext p
  show tkG (miS x) (kndF (miS x)) p = tkG x (kndF x) (mP p)
  rw [knd_m]
  rfl
theorem cln_m (x : SC) : clnF (miS x) = mF (clnF x) := by
  funext p
  show clG (miS x) (kndF (miS x)) p = clG x (kndF x) (mP p)
  rw [knd_m]
  rfl
theorem cmp_m (x : SC) : cmpF (miS x) = mF (cmpF x) := by
  funext p
  show cmG (miS x) (kndF (miS x)) (opqF (miS x)) p = cmG x (kndF x) (opqF x) (mP p)
  rw [knd_m, opq_m]
  rfl
theorem pxN_m (x : SC) (p k : Nat) : pxN (miS x) p k = pxN x (mP p) k := by
  rcases (show k = 0 ∨ k = 1 ∨ k = 2 ∨ k = 3 ∨ k = 4 ∨ k = 5 ∨ k = 6 ∨ k = 7 ∨ k = 8 ∨ 9 ≤ k by omega) with rfl | rfl | rfl | rfl | rfl | rfl | rfl | rfl | rfl | h
  · rfl
  · rfl
  · rfl
  · rfl
  · exact congrFun (opq_m x) p
  · exact congrFun (knd_m x) p
  · rfl
  · exact congrFun (tkn_m x) p
  · exact congrFun (cln_m x) p
  · obtain ⟨d, rfl⟩ := Nat.exists_eq_add_of_le h
    rw [Nat.add_comm]
    exact congrFun (cmp_m x) p
theorem pxA_m (x : SC) (p : Nat) (w : Int32) : pxA (miS x) (mP p) w = pxA x p w := by
  unfold pxA
  rw [pxN_m, mP_mP]
theorem ovf_m (x : SC) (w j : Nat) : ovf (miS x) w j = ovf x w (mP j) := by
  unfold ovf
  rw [opq_m, tkn_m, cmp_m]
  rfl
theorem cnN_m (x : SC) (t1 t2 h k : Nat) (hk : k ≠ 19) : cnN (miS x) t1 h k = cnN x t2 h k := by
  unfold cnN
  rw [sumN_mm (g := fun j => bN (decide (kndF x j = k - 7))) (fun j => by rw [knd_m]; rfl), sumN_mm (g := ovf x k) (fun j => ovf_m x k j), show sumN 48 (scG (miS x)) = sumN 48 (scG x) from sumN_m _, if_neg (c := k = 19) hk, if_neg (c := k = 19) hk]
theorem lef_m (x : SC) (k v : Nat) : lefN (miS x) k v = lefN x k v := by
  unfold lefN
  refine sumN_mm (fun j => ?_)
  show spl (cmpF (miS (upN (scS x) k v, x.2)) j) _ = _
  rw [cmp_m]
  rfl
theorem bsh_m (x : SC) (k : Nat) : ∀ n, bsh (miS x) k n = bsh x k n
  | 0 => rfl
  | n + 1 => by rw [bsh, bsh, bsh_m x k n, lef_m]
theorem clr_m (x : SC) (p : Nat) : clrN (miS x) p = clrN x (mP p) := by
  unfold clrN
  refine sumN_mm (fun j => ?_)
  show bN (decide (kndF (miS (scS x, scF x, scB x, scG x, scF x (mP p))) j = 0)) = _
  rw [knd_m]
  rfl
/-- the greatest of the first n -/
def mxv (f : Nat → Nat) : Nat → Nat
  | 0 => 0
  | n + 1 => max (mxv f n) (f n)
theorem mxv_ge {f : Nat → Nat} : ∀ {n j : Nat}, j < n → f j ≤ mxv f n
  | 0, j, h => absurd h (Nat.not_lt_zero j)
  | n + 1, j, h => by
    rw [mxv]
    rcases Nat.lt_or_ge j n with q | q
    · exact Nat.le_trans (mxv_ge q) (Nat.le_max_left _ _)
    · rw [show j = n by omega]; exact Nat.le_max_right _ _
theorem mxv_le {f : Nat → Nat} {b : Nat} : ∀ {n : Nat}, (∀ j, j < n → f j ≤ b) → mxv f n ≤ b
  | 0, _ => Nat.zero_le _
  | n + 1, h => by
    rw [mxv]
    exact Nat.max_le.mpr ⟨mxv_le (fun j hj => h j (by omega)), h n (by omega)⟩
theorem mxv_m (f : Nat → Nat) : mxv (mF f) 48 = mxv f 48 := Nat.le_antisymm (mxv_le (fun _ hj => mxv_ge (f := f) (mP_lt hj))) (mxv_le (fun j hj => by
  have h := mxv_ge (f := mF f) (mP_lt hj)
  unfold mF at h
  rwa [mP_mP] at h))
theorem clrN_le (x : SC) (p : Nat) : clrN x p ≤ 48 := by
  have := sumN_le (n := 48) (f := fun j => bN (decide (kndF (scS x, scF x, scB x, scG x, scF x p) j = 0))) (b := 1) (fun _ _ => bN_le _)
  unfold clrN
  omega
theorem bst_v (x : SC) : ∀ n, (bst x (n + 1)).2 = nI (mxv (clrN x) (n + 1))
  | 0 => by
    rw [bst, if_neg (by rw [i_le, nI_toInt (by have := clrN_le x 0; omega)]; show ¬ _ ≤ (-1 : Int); omega), mxv, mxv, Nat.zero_max]
  | n + 1 => by
    have h := bst_v x n
    have h1 := clrN_le x (n + 1)
    have h2 : mxv (clrN x) (n + 1) ≤ 48 := mxv_le (fun j _ => clrN_le x j)
    rw [bst, mxv]
    by_cases c : nI (clrN x (n + 1)) ≤ (bst x (n + 1)).2
    · rw [if_pos c, h]
      rw [h, i_le, nI_toInt (by omega), nI_toInt (by omega)] at c
      rw [Nat.max_eq_left (by omega)]
    · rw [if_neg c]
      rw [h, i_le, nI_toInt (by omega), nI_toInt (by omega)] at c
      show nI (clrN x (n + 1)) = _
      rw [Nat.max_eq_right (by omega)]
theorem bst_m (x : SC) : (bst (miS x) 48).2 = (bst x 48).2 := by
  rw [bst_v x 47, bst_v (miS x) 47, show clrN (miS x) = mF (clrN x) from funext (clr_m x), mxv_m]
theorem inR_m (p r j : Nat) : inR (mP r) (mP p) j = inR p r (mP j) := by
  unfold inR
  simp only [mP_mod, mP_div]
  congr 1
  · rw [decide_eq_decide]
    have := Nat.mod_lt j (by decide : 0 < 8)
    have := Nat.mod_lt p (by decide : 0 < 8)
    have := Nat.mod_lt r (by decide : 0 < 8)
    omega
  · rw [decide_eq_decide]
    omega
theorem fil_m (p r c : Nat) (f : Nat → Nat) : filR (mP r) (mP p) c (mF f) = mF (filR p r c f) := by
  funext j
  show (if inR (mP r) (mP p) j = true then c else f (mP j)) = (if inR p r (mP j) = true then c else f (mP j))
  rw [inR_m]
theorem inR_sum_m (p r : Nat) : sumN 48 (fun j => bN (inR (mP r) (mP p) j)) = sumN 48 (fun j => bN (inR p r j)) := sumN_mm (fun j => by rw [inR_m])
def dif (a b : Nat) : Nat := if a < b then b - a else a - b
theorem inR_sum : ∀ p, p < 48 → ∀ r, r < 48 → sumN 48 (fun j => bN (inR p r j)) = (dif (p % 8) (r % 8) + 1) * (dif (p / 8) (r / 8) + 1) := by decide +kernel
/-- as many pixels are composed otherwise under two settings -/
theorem cmp_sum_m (x y : SC) : sumN 48 (fun j => bN (!decide (cmpF (miS x) j = cmpF (miS y) j))) = sumN 48 (fun j => bN (!decide (cmpF x j = cmpF y j))) := sumN_mm (fun j => by rw [cmp_m, cmp_m]; rfl)
