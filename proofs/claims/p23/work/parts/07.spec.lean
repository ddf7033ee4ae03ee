/-! THE PICTURES OF STATE: a scene, what follows from it for each pixel -/
def upN (f : Nat → Nat) (k v : Nat) : Nat → Nat := fun j => if j = k then v else f j
theorem upN_s {f : Nat → Nat} {k v : Nat} : upN f k v k = v := if_pos rfl
theorem upN_n {f : Nat → Nat} {k v j : Nat} (h : j ≠ k) : upN f k v j = f j := if_neg h
theorem upN_a {f : Nat → Nat} {k v : Nat} (j : Nat) : upd (nA f) k (nI v) j = nA (upN f k v) j := by
  unfold upd upN
  show (if j = k then nI v else nI (f j)) = nI (if j = k then v else f j)
  split <;> rfl
/-- the first i by a, the others by b -/
def mxn (i : Nat) (a b : Nat → Nat) : Nat → Nat := fun j => if j < i then a j else b j
theorem mxn_0 {a b : Nat → Nat} (j : Nat) : nA b j = nA (mxn 0 a b) j := by simp [mxn, nA]
theorem mxn_n {n : Nat} {a b : Nat → Nat} (j : Nat) (h : j < n) : nA (mxn n a b) j = nA a j := by simp [mxn, nA, h]
theorem mxn_u {i v : Nat} {a b : Nat → Nat} (h : v = a i) (j : Nat) : upd (nA (mxn i a b)) i (nI v) j = nA (mxn (i + 1) a b) j := by
  rw [upN_a]
  show nI _ = nI _
  congr 1
  unfold mxn upN
  by_cases e : j = i
  · subst e; rw [if_pos rfl, if_pos (by omega)]; exact h
  · rw [if_neg e]
    show (if j < i then a j else b j) = _
    by_cases e2 : j < i
    · rw [if_pos e2, if_pos (by omega)]
    · rw [if_neg e2, if_neg (by omega)]
theorem mxn_s {i : Nat} {a b : Nat → Nat} (h : b i = a i) (j : Nat) : nA (mxn i a b) j = nA (mxn (i + 1) a b) j := by
  show nI _ = nI _
  congr 1
  unfold mxn
  by_cases e : j = i
  · subst e; rw [if_neg (by omega), if_pos (by omega)]; exact h
  · by_cases e2 : j < i
    · rw [if_pos e2, if_pos (by omega)]
    · rw [if_neg e2, if_neg (by omega)]
theorem mxn_at {i : Nat} {a b : Nat → Nat} : mxn (i + 1) a b i = a i := by simp [mxn]
theorem mxn_hi {i j : Nat} {a b : Nat → Nat} (h : i ≤ j) : mxn i a b j = b j := if_neg (by omega)
theorem mxn_lo {i j : Nat} {a b : Nat → Nat} (h : j < i) : mxn i a b j = a j := if_pos h
def anyN : Nat → (Nat → Bool) → Bool
  | 0, _ => false
  | n + 1, p => anyN n p || p n
theorem anyN_t {p : Nat → Bool} : ∀ {n : Nat}, anyN n p = true ↔ ∃ k, k < n ∧ p k = true
  | 0 => by simp [anyN]
  | n + 1 => by
    rw [anyN, Bool.or_eq_true, anyN_t]
    constructor
    · rintro (⟨k, h1, h2⟩ | h)
      · exact ⟨k, by omega, h2⟩
      · exact ⟨n, by omega, h⟩
    · rintro ⟨k, h1, h2⟩
      rcases Nat.lt_or_ge k n with h | h
      · exact Or.inl ⟨k, h, h2⟩
      · exact Or.inr (by rw [show n = k by omega]; exact h2)
abbrev SC : Type := (Nat → Nat) × (Nat → Nat) × (Nat → Nat) × (Nat → Nat) × Nat
abbrev scS (x : SC) : Nat → Nat := x.1
abbrev scF (x : SC) : Nat → Nat := x.2.1
abbrev scB (x : SC) : Nat → Nat := x.2.2.1
abbrev scG (x : SC) : Nat → Nat := x.2.2.2.1
abbrev scC (x : SC) : Nat := x.2.2.2.2
def SInv (x : SC) : Prop := (∀ j, j < 6 → scS x j ≤ hv j) ∧ scS x 0 < scS x 1 ∧ (∀ j, j < 48 → scF x j < 4096) ∧ (∀ j, j < 48 → scB x j < 4096) ∧ (∀ j, j < 48 → scG x j ≤ 1) ∧ scC x < 4096
theorem SInv.s0 {x : SC} (h : SInv x) : scS x 0 ≤ 45 := h.1 0 (by decide)
theorem SInv.s1 {x : SC} (h : SInv x) : scS x 1 ≤ 45 := h.1 1 (by decide)
theorem SInv.s2 {x : SC} (h : SInv x) : scS x 2 ≤ 16 := h.1 2 (by decide)
theorem SInv.s3 {x : SC} (h : SInv x) : scS x 3 ≤ 16 := h.1 3 (by decide)
theorem SInv.s4 {x : SC} (h : SInv x) : scS x 4 ≤ 16 := h.1 4 (by decide)
theorem SInv.s5 {x : SC} (h : SInv x) : scS x 5 ≤ 1 := h.1 5 (by decide)
theorem SInv.lt {x : SC} (h : SInv x) : scS x 0 < scS x 1 := h.2.1
theorem SInv.f {x : SC} (h : SInv x) : ∀ j, j < 48 → scF x j < 4096 := h.2.2.1
theorem SInv.b {x : SC} (h : SInv x) : ∀ j, j < 48 → scB x j < 4096 := h.2.2.2.1
theorem SInv.g {x : SC} (h : SInv x) : ∀ j, j < 48 → scG x j ≤ 1 := h.2.2.2.2.1
theorem SInv.c {x : SC} (h : SInv x) : scC x < 4096 := h.2.2.2.2.2
theorem SInv.s {x : SC} (h : SInv x) {j : Nat} (hj : j < 6) : scS x j ≤ 45 := by
  have h1 := h.1 j hj
  have h2 : ∀ j, j < 6 → hv j ≤ 45 := by decide
  exact Nat.le_trans h1 (h2 j hj)
def rawV (near far d : Nat) : Nat := if d ≤ near then 0 else if far ≤ d then 16 else 16 * (d - near) / (far - near)
theorem rawV_le {near far d : Nat} : rawV near far d ≤ 16 := by
  unfold rawV
  split
  · omega
  · split
    · omega
    · apply Nat.le_of_lt_succ
      rw [Nat.div_lt_iff_lt_mul (by omega)]
      have : 16 * (d - near) < 17 * (far - near) := by omega
      omega
def rawF (x : SC) (p : Nat) : Nat := rawV (scS x 0) (scS x 1) (dist (scF x p) (scC x))
theorem rawF_le (x : SC) (p : Nat) : rawF x p ≤ 16 := rawV_le
/-- from which pixels one comes to the edge within n steps -/
def opS (r : Nat → Nat) : Nat → Nat → Bool
  | 0, p => decide (r p < 16) && edge p
  | n + 1, p => opS r n p || (decide (r p < 16) && anyN 4 (fun k => nbOK p k && opS r n (nbP p k)))
def Opn (r : Nat → Nat) (p : Nat) : Prop := ∃ n, opS r n p = true
theorem Opn.lt {r : Nat → Nat} {p : Nat} (h : Opn r p) : r p < 16 := by
  obtain ⟨n, h⟩ := h
  induction n with
  | zero => simp only [opS, Bool.and_eq_true, decide_eq_true_eq] at h; exact h.1
  | succ n ih =>
    simp only [opS, Bool.or_eq_true, Bool.and_eq_true, decide_eq_true_eq] at h
    rcases h with h | h
    · exact ih h
    · exact h.1
theorem Opn.atE {r : Nat → Nat} {p : Nat} (h1 : r p < 16) (h2 : edge p = true) : Opn r p := ⟨0, by simp [opS, h1, h2]⟩
theorem Opn.step {r : Nat → Nat} {p k : Nat} (h1 : r p < 16) (hk : k < 4) (h2 : nbOK p k = true) (h3 : Opn r (nbP p k)) : Opn r p := by
  obtain ⟨n, h3⟩ := h3
  refine ⟨n + 1, ?_⟩
  have : anyN 4 (fun k => nbOK p k && opS r n (nbP p k)) = true := anyN_t.mpr ⟨k, hk, by simp [h2, h3]⟩
  simp [opS, h1, this]
/-- what holds the edge and goes with each step holds all that is open -/
theorem Opn.ind {r : Nat → Nat} {S : Nat → Prop} (h0 : ∀ p, p < 48 → r p < 16 → edge p = true → S p) (h1 : ∀ p k, p < 48 → k < 4 → r p < 16 → nbOK p k = true → S (nbP p k) → S p) : ∀ p, p < 48 → Opn r p → S p := by
  have key : ∀ n p, p < 48 → opS r n p = true → S p := by
    intro n
    induction n with
    | zero =>
      intro p hp h
      simp only [opS, Bool.and_eq_true, decide_eq_true_eq] at h
      exact h0 p hp h.1 h.2
    | succ n ih =>
      intro p hp h
      simp only [opS, Bool.or_eq_true, Bool.and_eq_true, decide_eq_true_eq] at h
      rcases h with h | ⟨h2, h3⟩
      · exact ih p hp h
      · obtain ⟨k, hk, h4⟩ := anyN_t.mp h3
        simp only [Bool.and_eq_true] at h4
        exact h1 p k hp hk h2 h4.1 (ih _ (nbP_lt hp h4.1) h4.2)
  exact fun p hp ⟨n, h⟩ => key n p hp h
noncomputable def opqF (x : SC) (p : Nat) : Nat := @ite _ (scS x 5 = 1 ∧ ¬ Opn (rawF x) p) (Classical.propDecidable _) 16 (rawF x p)
theorem opqF_le (x : SC) (p : Nat) : opqF x p ≤ 16 := by
  have := rawF_le x p
  unfold opqF
  split <;> omega
def nbHas (o : Nat → Nat) (p v : Nat) : Bool := anyN 4 (fun k => nbOK p k && decide (o (nbP p k) = v))
def knU (o : Nat → Nat) (p : Nat) : Nat := if o p = 0 then 0 else if o p = 16 then 3 else if (nbHas o p 16 && nbHas o p 0) = true then 2 else 1
theorem knU_le (o : Nat → Nat) (p : Nat) : knU o p ≤ 3 := by
  unfold knU
  split
  · omega
  · split
    · omega
    · split <;> omega
def kndG (x : SC) (o : Nat → Nat) (p : Nat) : Nat := if scG x p = 1 then 4 else knU o p
theorem kndG_le (x : SC) (o : Nat → Nat) (p : Nat) : kndG x o p ≤ 4 := by
  have := knU_le o p
  unfold kndG
  split <;> omega
noncomputable def kndF (x : SC) : Nat → Nat := kndG x (opqF x)
theorem kndF_le (x : SC) (p : Nat) : kndF x p ≤ 4 := kndG_le x _ p
def splF (x : SC) (p : Nat) : Nat := spl (scF x p) (mainP (scC x))
def shr (x : SC) (k : Nat) : Nat := if k = 0 then 0 else if k = 2 then scS x 3 else if k = 4 then scS x 4 else scS x 2
theorem shr_le {x : SC} (h : SInv x) (k : Nat) : shr x k ≤ 16 := by
  have h1 := h.s2
  have h2 := h.s3
  have h3 := h.s4
  unfold shr
  split
  · omega
  · split
    · omega
    · split <;> omega
theorem splF_lt (x : SC) (p : Nat) : splF x p < 16 := spl_lt _ _
def tkG (x : SC) (k : Nat → Nat) (p : Nat) : Nat := splF x p * shr x (k p) / 16
def clG (x : SC) (k : Nat → Nat) (p : Nat) : Nat := scF x p - tkG x k p * 2 ^ (4 * (2 - mainP (scC x)))
def cmG (x : SC) (k o : Nat → Nat) (p : Nat) : Nat := cmpC (clG x k p) (scB x p) (o p)
theorem tkG_le {x : SC} (h : SInv x) (k : Nat → Nat) (p : Nat) : tkG x k p ≤ splF x p := by
  have h1 := shr_le h (k p)
  unfold tkG
  apply Nat.div_le_of_le_mul
  rw [Nat.mul_comm 16]
  exact Nat.mul_le_mul_left _ h1
theorem tkG_num {x : SC} (h : SInv x) (k : Nat → Nat) (p : Nat) : splF x p * shr x (k p) < 256 := by
  have h1 := splF_lt x p
  have h2 := shr_le h (k p)
  have h3 := Nat.mul_le_mul (Nat.le_of_lt_succ h1) h2
  omega
theorem spl_le (c m : Nat) : spl c m ≤ P c m := by unfold spl; omega
theorem P_mul_le (c k : Nat) : P c k * 2 ^ (4 * (2 - k)) ≤ c := by
  have h1 : P c k ≤ c / 2 ^ (4 * (2 - k)) := Nat.mod_le _ _
  exact Nat.le_trans (Nat.mul_le_mul_right _ h1) (Nat.div_mul_le_self _ _)
theorem tkG_mul {x : SC} (h : SInv x) (k : Nat → Nat) (p : Nat) : tkG x k p * 2 ^ (4 * (2 - mainP (scC x))) ≤ scF x p :=
  Nat.le_trans (Nat.mul_le_mul_right _ (Nat.le_trans (tkG_le h k p) (spl_le _ _))) (P_mul_le _ _)
theorem clG_lt {x : SC} (h : SInv x) (k : Nat → Nat) {p : Nat} (hp : p < 48) : clG x k p < 4096 := Nat.lt_of_le_of_lt (Nat.sub_le _ _) (h.f p hp)
noncomputable def tknF (x : SC) : Nat → Nat := tkG x (kndF x)
noncomputable def clnF (x : SC) : Nat → Nat := clG x (kndF x)
noncomputable def cmpF (x : SC) : Nat → Nat := cmG x (kndF x) (opqF x)
theorem tknF_lt {x : SC} (h : SInv x) (p : Nat) : tknF x p < 16 := Nat.lt_of_le_of_lt (tkG_le h _ p) (splF_lt x p)
theorem clnF_lt {x : SC} (h : SInv x) {p : Nat} (hp : p < 48) : clnF x p < 4096 := clG_lt h _ hp
theorem cmpF_lt (x : SC) (p : Nat) : cmpF x p < 4096 := cmpC_lt (opqF_le x p)
theorem nb_ok {p k : Nat} (hp : p < 48) : okI 48 (nbI p k) = nbOK p k := by
  cases h : nbOK p k with
  | true => rw [nbI_t h]; exact okI_n (nbP_lt hp h) (by have := nbP_lt hp h; omega)
  | false => rw [nbI_f h]; exact okI_m rfl
/-- reached, the queue, how many are queued -/
abbrev GZ : Type := (Nat → Nat) × (Nat → Nat) × Nat
def rc (r : Nat → Nat) (x : Int32) (z : GZ) : GZ := if okI 48 x = true ∧ r (nN x) < 16 ∧ z.1 (nN x) = 0 ∧ z.2.2 < 48 then (upN z.1 (nN x) 1, upN z.2.1 z.2.2 (nN x), z.2.2 + 1) else z
theorem rc_n1 {r : Nat → Nat} {x : Int32} {z : GZ} (h : okI 48 x = false) : rc r x z = z := if_neg (by rw [h]; intro q; exact absurd q.1 (by decide))
theorem rc_n2 {r : Nat → Nat} {p : Nat} {z : GZ} (hp : p < 48) (h : ¬ (r p < 16 ∧ z.1 p = 0 ∧ z.2.2 < 48)) : rc r (nI p) z = z := if_neg (by rw [nN_nI (by omega)]; exact fun q => h q.2)
theorem rc_y {r : Nat → Nat} {p : Nat} {z : GZ} (hp : p < 48) (h1 : r p < 16) (h2 : z.1 p = 0) (h3 : z.2.2 < 48) : rc r (nI p) z = (upN z.1 p 1, upN z.2.1 z.2.2 p, z.2.2 + 1) := by
  unfold rc
  rw [nN_nI (by omega), if_pos ⟨okI_n hp (by omega), h1, h2, h3⟩]
def BI (r : Nat → Nat) (z : GZ) : Prop := (∀ j, j < 48 → z.1 j ≤ 1) ∧ z.2.2 = sumN 48 z.1 ∧ (∀ i, i < z.2.2 → z.2.1 i < 48 ∧ z.1 (z.2.1 i) = 1) ∧ (∀ j, j < 48 → z.1 j = 1 → Opn r j) ∧ (∀ j, j < 48 → z.1 j = 1 → ∃ i, i < z.2.2 ∧ z.2.1 i = j)
theorem BI.n48 {r : Nat → Nat} {z : GZ} (h : BI r z) : z.2.2 ≤ 48 := by
  have := sumN_le (n := 48) (f := z.1) (b := 1) h.1
  rw [h.2.1]
  omega
theorem sumN_up {f : Nat → Nat} {k v : Nat} : ∀ {n : Nat}, k < n → sumN n (upN f k v) + f k = sumN n f + v
  | 0, h => absurd h (by omega)
  | n + 1, h => by
    rw [sumN, sumN]
    by_cases e : k = n
    · subst e
      rw [upN_s, sumN_congr (g := f) (fun j hj => upN_n (by omega))]
      omega
    · rw [upN_n (j := n) (by omega)]
      have := sumN_up (f := f) (k := k) (v := v) (n := n) (by omega)
      omega
theorem BI.start {r q : Nat → Nat} : BI r ((fun _ => 0), q, 0) := by
  refine ⟨fun _ _ => by show 0 ≤ 1; omega, ?_, fun i h => absurd h (by show ¬ i < 0; omega), fun j _ h => absurd h (by show ¬ (0 : Nat) = 1; decide), fun j _ h => absurd h (by show ¬ (0 : Nat) = 1; decide)⟩
  have := sumN_le (n := 48) (f := fun _ => 0) (b := 0) (fun _ _ => Nat.le_refl _)
  show 0 = sumN 48 (fun _ => 0)
  omega
/-- what a step of reach keeps, and gives -/
theorem BI.stp {r : Nat → Nat} {z : GZ} {x : Int32} (h : BI r z) (hx : ∀ p, p < 48 → x = nI p → r p < 16 → Opn r p) :
    BI r (rc r x z) ∧ (∀ j, j < 48 → z.1 j = 1 → (rc r x z).1 j = 1) ∧ (∀ i, i < z.2.2 → (rc r x z).2.1 i = z.2.1 i) ∧ z.2.2 ≤ (rc r x z).2.2 ∧ (∀ p, p < 48 → x = nI p → r p < 16 → (rc r x z).1 p = 1) := by
  obtain ⟨h1, h2, h3, h4, h5⟩ := h
  cases hok : okI 48 x with
  | false =>
    rw [rc_n1 hok]
    refine ⟨⟨h1, h2, h3, h4, h5⟩, fun _ _ h => h, fun _ _ => rfl, Nat.le_refl _, fun p hp e => ?_⟩
    rw [e, okI_n hp (by omega)] at hok
    cases hok
  | true =>
    obtain ⟨p, hp, rfl⟩ := okI_t hok (by decide)
    have inj : ∀ q, q < 48 → nI p = nI q → q = p := fun q hq e => ((nI_eq (by omega) (by omega)).mp e).symm
    by_cases hc : r p < 16 ∧ z.1 p = 0 ∧ z.2.2 < 48
    · obtain ⟨c1, c2, c3⟩ := hc
      rw [rc_y hp c1 c2 c3]
      have hO := hx p hp rfl c1
      refine ⟨⟨fun j hj => ?_, ?_, fun i hi => ?_, fun j hj he => ?_, fun j hj he => ?_⟩, fun j hj he => ?_, fun i hi => ?_, by show z.2.2 ≤ z.2.2 + 1; omega, fun q hq e _ => ?_⟩
      · show upN z.1 p 1 j ≤ 1
        unfold upN
        split
        · omega
        · exact h1 j hj
      · show z.2.2 + 1 = sumN 48 (upN z.1 p 1)
        have := sumN_up (f := z.1) (k := p) (v := 1) (n := 48) hp
        omega
      · show upN z.2.1 z.2.2 p i < 48 ∧ upN z.1 p 1 (upN z.2.1 z.2.2 p i) = 1
        have hi : i < z.2.2 + 1 := hi
        by_cases e : i = z.2.2
        · rw [e, upN_s, upN_s]; exact ⟨hp, rfl⟩
        · rw [upN_n e]
          refine ⟨(h3 i (by omega)).1, ?_⟩
          unfold upN
          split
          · rfl
          · exact (h3 i (by omega)).2
      · by_cases e : j = p
        · rw [e]; exact hO
        · have he : upN z.1 p 1 j = 1 := he
          rw [upN_n e] at he
          exact h4 j hj he
      · show ∃ i, i < z.2.2 + 1 ∧ upN z.2.1 z.2.2 p i = j
        by_cases e : j = p
        · exact ⟨z.2.2, by omega, by rw [upN_s, e]⟩
        · have he : upN z.1 p 1 j = 1 := he
          rw [upN_n e] at he
          obtain ⟨i, g1, g2⟩ := h5 j hj he
          exact ⟨i, by omega, by rw [upN_n (by omega)]; exact g2⟩
      · show upN z.1 p 1 j = 1
        unfold upN
        split
        · rfl
        · exact he
      · show upN z.2.1 z.2.2 p i = z.2.1 i
        exact upN_n (by omega)
      · show upN z.1 p 1 q = 1
        rw [inj q hq e, upN_s]
    · rw [rc_n2 hp hc]
      refine ⟨⟨h1, h2, h3, h4, h5⟩, fun _ _ h => h, fun _ _ => rfl, Nat.le_refl _, fun q hq e hr => ?_⟩
      have e := inj q hq e
      subst e
      have := h1 q hp
      by_cases e0 : z.1 q = 0
      · exfalso
        apply hc
        refine ⟨hr, e0, ?_⟩
        have hs := sumN_up (f := z.1) (k := q) (v := 1) (n := 48) hp
        have hl := sumN_le (n := 48) (f := upN z.1 q 1) (b := 1) (fun j hj => by unfold upN; split; omega; exact h1 j hj)
        omega
      · omega
theorem nb_back {p k : Nat} (hp : p < 48) (hk : k < 4) (h : nbOK p k = true) : ∃ k', k' < 4 ∧ nbOK (nbP p k) k' = true ∧ nbP (nbP p k) k' = p := by
  rcases (show k = 0 ∨ k = 1 ∨ k = 2 ∨ k = 3 by omega) with rfl | rfl | rfl | rfl
  · have h : 8 ≤ p := of_decide_eq_true h
    exact ⟨1, by decide, decide_eq_true (by show p - 8 < 40; omega), by show p - 8 + 8 = p; omega⟩
  · have h : p < 40 := of_decide_eq_true h
    exact ⟨0, by decide, (show decide (8 ≤ nbP p 1) = true from decide_eq_true (by show 8 ≤ p + 8; omega)), by show p + 8 - 8 = p; omega⟩
  · have h : 0 < p % 8 := of_decide_eq_true h
    exact ⟨3, by decide, decide_eq_true (by show (p - 1) % 8 < 7; omega), by show p - 1 + 1 = p; omega⟩
  · have h : p % 8 < 7 := of_decide_eq_true h
    exact ⟨2, by decide, decide_eq_true (by show 0 < (p + 1) % 8; omega), by show p + 1 - 1 = p; omega⟩
def eOK (r : Nat → Nat) (n : Nat) (z : GZ) : Prop := ∀ p, p < n → edge p = true → r p < 16 → z.1 p = 1
def sOK (r : Nat → Nat) (z : GZ) (i n : Nat) : Prop := ∀ k, k < n → nbOK (z.2.1 i) k = true → r (nbP (z.2.1 i) k) < 16 → z.1 (nbP (z.2.1 i) k) = 1
theorem BI.fin {r : Nat → Nat} {z : GZ} (h : BI r z) (he : eOK r 48 z) (hs : ∀ i, i < z.2.2 → sOK r z i 4) : ∀ p, p < 48 → z.1 p ≤ 1 ∧ (z.1 p = 1 ↔ Opn r p) := by
  intro p hp
  refine ⟨h.1 p hp, h.2.2.2.1 p hp, fun ho => ?_⟩
  refine Opn.ind (r := r) (S := fun p => z.1 p = 1) (fun p hp hr e => he p hp e hr) (fun p k hp hk hr hok hS => ?_) p hp ho
  have hq := nbP_lt hp hok
  obtain ⟨i, hi, e⟩ := h.2.2.2.2 _ hq hS
  obtain ⟨k', hk', b1, b2⟩ := nb_back hp hk hok
  have := hs i hi k' hk' (by rw [e]; exact b1) (by rw [e, b2]; exact hr)
  rw [e, b2] at this
  exact this
noncomputable def clsF (r o : Nat → Nat) (p : Nat) : Nat := @ite _ (Opn r p) (Classical.propDecidable _) (o p) 16
theorem clsF_t {r o : Nat → Nat} {p : Nat} (h : Opn r p) : clsF r o p = o p := by unfold clsF; rw [if_pos h]
theorem clsF_f {r o : Nat → Nat} {p : Nat} (h : ¬ Opn r p) : clsF r o p = 16 := by unfold clsF; rw [if_neg h]
theorem opq_n {x : SC} (h : scS x 5 ≠ 1) (p : Nat) : rawF x p = opqF x p := by unfold opqF; rw [if_neg (fun q => h q.1)]
theorem opq_y {x : SC} (h : scS x 5 = 1) (p : Nat) : clsF (rawF x) (rawF x) p = opqF x p := by
  unfold opqF clsF
  by_cases ho : Opn (rawF x) p
  · rw [if_pos ho, if_neg (fun q => q.2 ho)]
  · rw [if_neg ho, if_pos ⟨h, ho⟩]
abbrev scW (G : VC) (a : Nat → Nat) (x : SC) : va_W := [(a 0, kO 2 [.ref (a 1), .ref (a 2), .ref (a 3), .ref (a 4), .int (nI (scC x))]), (a 1, kA (gI G) 6 (nA (scS x))), (a 2, kA (gI G) 48 (nA (scF x))), (a 3, kA (gI G) 48 (nA (scB x))), (a 4, kA (gZ G) 48 (nA (scG x)))]
abbrev vwW (G : VC) (a : Nat → Nat) (r o k s t c m e q : Nat → Nat) (n : Nat) : va_W := [(a 0, kO 3 [.ref (a 1), .ref (a 2), .ref (a 3), .ref (a 4), .ref (a 5), .ref (a 6), .ref (a 7), .ref (a 8), .ref (a 9), .int (nI n)]), (a 1, kA (gI G) 48 (nA r)), (a 2, kA (gI G) 48 (nA o)), (a 3, kA (gI G) 48 (nA k)), (a 4, kA (gI G) 48 (nA s)), (a 5, kA (gI G) 48 (nA t)), (a 6, kA (gI G) 48 (nA c)), (a 7, kA (gI G) 48 (nA m)), (a 8, kA (gZ G) 48 (nA e)), (a 9, kA (gI G) 48 (nA q))]
