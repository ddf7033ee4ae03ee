/-! what is told of a pixel, and of all -/
theorem wl_by {x : SC} {p : Nat} (hp : p < 48) (h : ¬ opqF x p = rawF x p) : opqF x p = 16 ∧ rawF x p < 16 ∧ scS x 5 = 1 ∧ 7 < p ∧ p < 40 ∧ 0 < p % 8 ∧ p % 8 < 7 := by
  have hl := rawF_le x p
  by_cases c : scS x 5 = 1 ∧ ¬ Opn (rawF x) p
  · have e : opqF x p = 16 := by unfold opqF; rw [if_pos c]
    have hr : rawF x p < 16 := by
      rcases Nat.lt_or_ge (rawF x p) 16 with q | q
      · exact q
      · exact absurd (show opqF x p = rawF x p by omega) h
    have he : edge p = false := by
      cases q : edge p with
      | false => rfl
      | true => exact absurd (Opn.atE hr q) c.2
    unfold edge at he
    rw [decide_eq_false_iff_not] at he
    exact ⟨e, hr, c.1, by omega, by omega, by omega, by omega⟩
  · exact absurd (by unfold opqF; rw [if_neg c]) h
theorem wl_raw0 {x : SC} {p : Nat} (h : dist (scF x p) (scC x) ≤ scS x 0) : rawF x p = 0 := if_pos h
theorem wl_raw16 {x : SC} {p : Nat} (h : ¬ dist (scF x p) (scC x) ≤ scS x 0) (h2 : scS x 1 ≤ dist (scF x p) (scC x)) : rawF x p = 16 := by
  unfold rawF rawV
  rw [if_neg h, if_pos h2]
theorem wl_raw {x : SC} {p : Nat} (h : ¬ dist (scF x p) (scC x) ≤ scS x 0) (h2 : ¬ scS x 1 ≤ dist (scF x p) (scC x)) : rawF x p < 16 := by
  unfold rawF rawV
  rw [if_neg h, if_neg h2]
  rw [Nat.div_lt_iff_lt_mul (by omega)]
  omega
theorem P_all {c : Nat} (h : c < 4096) : P c 0 * 2 ^ 8 + P c 1 * 2 ^ 4 + P c 2 = c := by
  unfold P
  show c / 256 % 16 * 256 + c / 16 % 16 * 16 + c / 1 % 16 = c
  omega
theorem cmpC_0 {f b : Nat} (h : b < 4096) : cmpC f b 0 = b := by
  have e : ∀ k, mixK f b 0 k = P b k := fun k => by unfold mixK; rw [Nat.mul_zero, Nat.zero_add]; exact Nat.mul_div_cancel _ (by decide)
  unfold cmpC
  rw [e, e, e]
  exact P_all h
theorem cmpC_16 {f b : Nat} (h : f < 4096) : cmpC f b 16 = f := by
  have e : ∀ k, mixK f b 16 k = P f k := fun k => by unfold mixK; rw [Nat.sub_self, Nat.mul_zero, Nat.add_zero]; exact Nat.mul_div_cancel _ (by decide)
  unfold cmpC
  rw [e, e, e]
  exact P_all h
theorem wl_clear {x : SC} (hx : SInv x) {p : Nat} (hp : p < 48) (h : opqF x p = 0) : cmpF x p = scB x p := by
  show cmpC _ _ (opqF x p) = _
  rw [h]
  exact cmpC_0 (hx.b p hp)
theorem wl_body {x : SC} (hx : SInv x) {p : Nat} (hp : p < 48) (h : opqF x p = 16) : cmpF x p = clnF x p := by
  show cmpC (clnF x p) _ (opqF x p) = _
  rw [h]
  exact cmpC_16 (clnF_lt hx hp)
theorem wl_clean {x : SC} {p : Nat} (h : tknF x p = 0) : clnF x p = scF x p := by
  show scF x p - tknF x p * _ = _
  rw [h, Nat.zero_mul, Nat.sub_zero]
theorem wl_out {x : SC} (hx : SInv x) (p : Nat) : tknF x p ≤ splF x p := tkG_le hx _ p
theorem wl_kind {x : SC} (p : Nat) : kndF x p = 4 ∨ (kndF x p = 0 ∧ opqF x p = 0 ∧ tknF x p = 0) ∨ (kndF x p = 3 ∧ opqF x p = 16) ∨ ((kndF x p = 1 ∨ kndF x p = 2) ∧ 0 < opqF x p ∧ opqF x p < 16) := by
  have ho := opqF_le x p
  have ht : kndF x p = 0 → tknF x p = 0 := fun e => by
    show splF x p * shr x (kndF x p) / 16 = 0
    rw [e, show shr x 0 = 0 from if_pos rfl, Nat.mul_zero]
  have hk : kndF x p = if scG x p = 1 then 4 else knU (opqF x) p := rfl
  by_cases hg : scG x p = 1
  · rw [if_pos hg] at hk; exact .inl hk
  · rw [if_neg hg] at hk
    unfold knU at hk
    by_cases h0 : opqF x p = 0
    · rw [if_pos h0] at hk; exact .inr (.inl ⟨hk, h0, ht hk⟩)
    · rw [if_neg h0] at hk
      by_cases h16 : opqF x p = 16
      · rw [if_pos h16] at hk; exact .inr (.inr (.inl ⟨hk, h16⟩))
      · rw [if_neg h16] at hk
        refine .inr (.inr (.inr ⟨?_, by omega, by omega⟩))
        by_cases hh : (nbHas (opqF x) p 16 && nbHas (opqF x) p 0) = true
        · rw [if_pos hh] at hk; exact .inr hk
        · rw [if_neg hh] at hk; exact .inl hk
theorem bN_eq (a b : Nat) : bN (decide (a = b)) = if a = b then 1 else 0 := by
  by_cases h : a = b
  · rw [if_pos h, decide_eq_true h]; rfl
  · rw [if_neg h, decide_eq_false h]; rfl
theorem sumN_add {f g : Nat → Nat} : ∀ n, sumN n f + sumN n g = sumN n (fun j => f j + g j)
  | 0 => rfl
  | n + 1 => by
    have := sumN_add (f := f) (g := g) n
    show sumN n f + f n + (sumN n g + g n) = sumN n (fun j => f j + g j) + (f n + g n)
    omega
theorem sumN_one : ∀ n, sumN n (fun _ => 1) = n
  | 0 => rfl
  | n + 1 => by show sumN n _ + 1 = n + 1; rw [sumN_one n]
theorem wl_kinds (x : SC) (t h : Nat) : cnN x t h 7 + cnN x t h 8 + cnN x t h 9 + cnN x t h 10 + cnN x t h 11 = 48 := by
  have e : ∀ k, k < 5 → cnN x t h (7 + k) = sumN 48 (fun j => bN (decide (kndF x j = k))) := fun k hk => by
    unfold cnN
    rw [if_neg (by omega), if_neg (by omega), if_pos (by omega), show 7 + k - 7 = k by omega]
  rw [e 0 (by decide), e 1 (by decide), e 2 (by decide), e 3 (by decide), e 4 (by decide), sumN_add, sumN_add, sumN_add, sumN_add]
  refine (sumN_congr (g := fun _ => 1) (fun j _ => ?_)).trans (sumN_one 48)
  have := kndF_le x j
  simp only [bN_eq]
  rcases (show kndF x j = 0 ∨ kndF x j = 1 ∨ kndF x j = 2 ∨ kndF x j = 3 ∨ kndF x j = 4 by omega) with q | q | q | q | q <;> simp [q]
theorem wl_glass {x : SC} (hx : SInv x) (t h : Nat) : cnN x t h 11 = cnN x t h 18 := by
  unfold cnN
  rw [if_neg (by omega), if_neg (by omega), if_pos (by omega), if_neg (by omega), if_neg (by omega), if_neg (by omega), if_neg (by omega), if_pos rfl]
  refine sumN_congr (fun j hj => ?_)
  have hg := hx.g j hj
  have hu := knU_le (opqF x) j
  have hk : kndF x j = if scG x j = 1 then 4 else knU (opqF x) j := rfl
  rw [bN_eq]
  by_cases c : scG x j = 1
  · rw [if_pos c] at hk; rw [if_pos hk, c]
  · rw [if_neg c] at hk; rw [if_neg (by omega)]; omega
theorem cn_12 (x : SC) (t h : Nat) : cnN x t h 12 = sumN 48 (opqF x) := rfl
theorem cn_13 (x : SC) (t h : Nat) : cnN x t h 13 = sumN 48 (splF x) := rfl
theorem cn_14 (x : SC) (t h : Nat) : cnN x t h 14 = sumN 48 (tknF x) := rfl
theorem cn_15 (x : SC) (t h : Nat) : cnN x t h 15 = sumN 48 (fun j => bN (!decide (opqF x j = rawF x j))) := rfl
theorem cn_17 (x : SC) (t h : Nat) : cnN x t h 17 = sumN 48 (fun j => bN (decide (cmpF x j = scF x j))) := rfl
theorem cn_18 (x : SC) (t h : Nat) : cnN x t h 18 = sumN 48 (scG x) := rfl
theorem cn_6 (x : SC) (t h : Nat) : cnN x t h 6 = scC x := rfl
theorem cn_20 (x : SC) (t h : Nat) : cnN x t h 20 = h := rfl
theorem cn_19 (x : SC) (t h : Nat) : cnN x t h 19 = t := rfl
/-- the bits of a row as one number -/
def mskN (q : Nat → Bool) : Nat → Nat
  | 0 => 0
  | n + 1 => if q n = true then mskN q n + 2 ^ n else mskN q n
theorem mskN_lt (q : Nat → Bool) : ∀ n, mskN q n < 2 ^ n
  | 0 => by show 0 < 2 ^ 0; decide
  | n + 1 => by
    have := mskN_lt q n
    rw [mskN, Nat.pow_succ]
    split <;> omega
theorem msk_n (q : Nat → Bool) : ∀ n, n ≤ 30 → msk q n = nI (mskN q n)
  | 0, _ => rfl
  | n + 1, h => by
    have hl := mskN_lt q n
    rw [msk, mskN, msk_n q n (by omega)]
    by_cases c : q n = true
    · rw [if_pos c, if_pos c, Int32.or_comm, orN n (z := 1) rfl hl]
      congr 1
      omega
    · rw [if_neg c, if_neg c]
theorem mskN_bit (q : Nat → Bool) (i : Nat) (hq : q i = true) : ∀ n, i < n → mskN q n / 2 ^ i % 2 = 1
  | 0, h => absurd h (Nat.not_lt_zero i)
  | n + 1, h => by
    have hl := mskN_lt q n
    rw [mskN]
    by_cases e : i = n
    · subst e
      rw [if_pos hq, Nat.add_div_right _ (Nat.two_pow_pos i), Nat.div_eq_of_lt hl]
    · have ih := mskN_bit q i hq n (by omega)
      by_cases c : q n = true
      · rw [if_pos c]
        obtain ⟨d, hd⟩ := Nat.exists_eq_add_of_lt (show i < n by omega)
        have e2 : 2 ^ n = 2 ^ i * (2 * 2 ^ d) := by rw [hd, show i + d + 1 = i + (1 + d) by omega, Nat.pow_add, Nat.pow_add, Nat.pow_one]
        rw [e2, Nat.add_mul_div_left _ _ (Nat.two_pow_pos i), Nat.add_mod, Nat.mul_mod_right, Nat.add_zero, Nat.mod_mod]
        exact ih
      · rw [if_neg c]; exact ih
