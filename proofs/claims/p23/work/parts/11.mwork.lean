/-! the reference: what is worked out of a scene -/
theorem mb_eq {p w : Nat} (hp : p < 48) (h : mbI p w = -6) : nbOK p (wy w) = false := by
  cases e : nbOK p (wy w) with
  | false => rfl
  | true =>
    rw [mbI_t e] at h
    have h2 := okI_n (n := 48) (nbP_lt hp e) (by have := nbP_lt hp e; omega)
    rw [h] at h2
    exact absurd h2 (by decide)
theorem mb_ne {p w : Nat} (h : ¬ mbI p w = -6) : nbOK p (wy w) = true := by
  cases e : nbOK p (wy w) with
  | true => rfl
  | false => exact absurd (mbI_f e) h
theorem nbHas_wy (o : Nat → Nat) (p v : Nat) : anyN 4 (fun w => nbOK p (wy w) && decide (o (nbP p (wy w)) = v)) = nbHas o p v := by
  rw [Bool.eq_iff_iff]
  unfold nbHas
  rw [anyN_t, anyN_t]
  constructor
  · rintro ⟨w, hw, h⟩
    exact ⟨wy w, wy_lt hw, h⟩
  · rintro ⟨k, hk, h⟩
    exact ⟨wy k, wy_lt hk, by rw [wy_wy hk]; exact h⟩
def eS (r : Nat → Nat) (j : Nat) : Nat := bN (decide (r j < 16) && edge j)
abbrev YT : Type := Bool × (Nat → Nat)
def mCl (r e : Nat → Nat) (k : Nat) : Prop := r (k / 4) < 16 → nbOK (k / 4) (wy (k % 4)) = true → e (nbP (k / 4) (wy (k % 4))) = 1 → e (k / 4) = 1
def mOK (r e : Nat → Nat) : Prop := (∀ j, j < 48 → e j ≤ 1) ∧ (∀ j, j < 48 → e j = 1 → Opn r j) ∧ (∀ p, p < 48 → edge p = true → r p < 16 → e p = 1)
def OI (r : Nat → Nat) (y : YT) : Prop := mOK r y.2 ∧ (y.1 = false → ∀ k, k < 192 → mCl r y.2 k)
def IJ (r : Nat → Nat) (y : YT) (k : Nat) (u : YT) : Prop := mOK r u.2 ∧ ((u.1 = false ∧ u.2 = y.2 ∧ ∀ k', k' < k → mCl r y.2 k') ∨ (u.1 = true ∧ sumN 48 y.2 < sumN 48 u.2))
theorem OI.start (r : Nat → Nat) : OI r (true, eS r) := by
  refine ⟨⟨fun j _ => bN_le _, fun j hj h => ?_, fun p hp he hr => ?_⟩, fun h => absurd h (by show ¬ true = false; decide)⟩
  · have h : bN (decide (r j < 16) && edge j) = 1 := h
    cases hb : (decide (r j < 16) && edge j) with
    | false => rw [hb] at h; exact absurd h (by decide)
    | true =>
      rw [Bool.and_eq_true, decide_eq_true_eq] at hb
      exact Opn.atE hb.1 hb.2
  · show bN (decide (r p < 16) && edge p) = 1
    rw [decide_eq_true hr, he]; rfl
theorem OI.fin {r : Nat → Nat} {y : YT} (h : OI r y) (hy : y.1 = false) : ∀ p, p < 48 → y.2 p ≤ 1 ∧ (y.2 p = 1 ↔ Opn r p) := by
  intro p hp
  obtain ⟨⟨h1, h2, h3⟩, h4⟩ := h
  refine ⟨h1 p hp, h2 p hp, fun ho => ?_⟩
  refine Opn.ind (r := r) (S := fun p => y.2 p = 1) (fun p hp hr e => h3 p hp e hr) (fun p k hp hk hr hok hS => ?_) p hp ho
  have hc := h4 hy (4 * p + wy k) (by have := wy_lt hk; omega)
  have e1 : (4 * p + wy k) / 4 = p := by have := wy_lt hk; omega
  have e2 : (4 * p + wy k) % 4 = wy k := by have := wy_lt hk; omega
  unfold mCl at hc
  rw [e1, e2, wy_wy hk] at hc
  exact hc hr hok hS
theorem IJ.skip {r : Nat → Nat} {y u : YT} {k : Nat} (h : IJ r y k u) (hc : mCl r u.2 k) : IJ r y (k + 1) u := by
  obtain ⟨h1, h2⟩ := h
  refine ⟨h1, ?_⟩
  rcases h2 with ⟨a, b, c⟩ | h2
  · refine Or.inl ⟨a, b, fun k' hk' => ?_⟩
    rcases Nat.lt_succ_iff_lt_or_eq.mp hk' with h | h
    · exact c k' h
    · rw [h, ← b]; exact hc
  · exact Or.inr h2
theorem IJ.put {r : Nat → Nat} {y u : YT} {k : Nat} (h : IJ r y k u) (hk : k < 192) (h1 : r (k / 4) < 16) (h2 : u.2 (k / 4) = 0) (h3 : nbOK (k / 4) (wy (k % 4)) = true) (h4 : u.2 (nbP (k / 4) (wy (k % 4))) = 1) : IJ r y (k + 1) (true, upN u.2 (k / 4) 1) := by
  obtain ⟨⟨a1, a2, a3⟩, hh⟩ := h
  have hp : k / 4 < 48 := by omega
  have hs := sumN_up (f := u.2) (k := k / 4) (v := 1) (n := 48) hp
  refine ⟨⟨fun j hj => ?_, fun j hj he => ?_, fun p hp2 he hr => ?_⟩, Or.inr ⟨rfl, ?_⟩⟩
  · show upN u.2 (k / 4) 1 j ≤ 1
    unfold upN
    split
    · omega
    · exact a1 j hj
  · by_cases e : j = k / 4
    · rw [e]; exact Opn.step h1 (wy_lt (Nat.mod_lt _ (by decide))) h3 (a2 _ (nbP_lt hp h3) h4)
    · have he : upN u.2 (k / 4) 1 j = 1 := he
      rw [upN_n e] at he
      exact a2 j hj he
  · show upN u.2 (k / 4) 1 p = 1
    unfold upN
    split
    · rfl
    · exact a3 p hp2 he hr
  · show sumN 48 y.2 < sumN 48 (upN u.2 (k / 4) 1)
    rcases hh with ⟨_, b, _⟩ | ⟨_, b⟩
    · rw [← b]; omega
    · omega
def muY (y : YT) : Nat := (48 - sumN 48 y.2) + bN y.1
theorem IJ.fin {r : Nat → Nat} {y u : YT} (h : IJ r y 192 u) (hy : y.1 = true) : muY u < muY y ∧ OI r u := by
  obtain ⟨h1, h2⟩ := h
  have hl := sumN_le (n := 48) (f := u.2) (b := 1) h1.1
  unfold muY
  rcases h2 with ⟨a, b, c⟩ | ⟨a, b⟩
  · refine ⟨?_, h1, fun _ => by rw [b]; exact c⟩
    rw [a, b, hy, bN_f rfl, bN_t rfl]; omega
  · refine ⟨?_, h1, fun e => absurd (a.symm.trans e) (by decide)⟩
    rw [a, hy]; omega
theorem opq_o {x : SC} {p : Nat} (h : Opn (rawF x) p) : rawF x p = opqF x p := by unfold opqF; rw [if_neg (fun q => q.2 h)]
theorem opq_c {x : SC} {p : Nat} (h5 : scS x 5 = 1) (h : ¬ Opn (rawF x) p) : 16 = opqF x p := by unfold opqF; rw [if_pos ⟨h5, h⟩]







noncomputable def ovf (x : SC) (w : Nat) (j : Nat) : Nat := if w = 12 then opqF x j else if w = 13 then splF x j else if w = 14 then tknF x j else if w = 15 then bN (!decide (opqF x j = rawF x j)) else if w = 16 then bN (decide (cmpF x j = scB x j)) else bN (decide (cmpF x j = scF x j))

