/-! the reference: its public methods, case by case -/
theorem mxn_o {d : Nat} {f : Nat → Nat} {i : Nat} : mxn i (fun j => f (j + d)) f (i + d) = f (i + d) := mxn_hi (by omega)
/-- the row f told from place h on, n numbers of it so far -/
def ins (h n : Nat) (f g : Nat → Nat) : Nat → Nat := fun j => if h ≤ j ∧ j < h + n then f (j - h) else g j
theorem ins_0 {h : Nat} {f g : Nat → Nat} (j : Nat) : nA g j = nA (ins h 0 f g) j := congrArg nI (if_neg (by omega)).symm
theorem ins_u {h n : Nat} {f g : Nat → Nat} (j : Nat) : upd (nA (ins h n f g)) (h + n) (nI (f n)) j = nA (ins h (n + 1) f g) j := by
  rw [upN_a]
  refine congrArg nI ?_
  unfold upN ins
  by_cases e : j = h + n
  · rw [if_pos e, if_pos (by omega), e, show h + n - h = n by omega]
  · rw [if_neg e]
    by_cases e2 : h ≤ j ∧ j < h + n
    · rw [if_pos e2, if_pos (by omega)]
    · rw [if_neg e2, if_neg (by omega)]
theorem ins_in {h n i : Nat} {f g : Nat → Nat} (hi : i < n) : ins h n f g (h + i) = f i := by
  unfold ins
  rw [if_pos (by omega), show h + i - h = i by omega]
theorem ins_out {h n j : Nat} {f g : Nat → Nat} (hj : j < h ∨ h + n ≤ j) : ins h n f g j = g j := if_neg (by omega)
/-- the history's row holds the hl states hh -/
def HI (hl : Nat) (hh : Nat → SC) (hi : Nat → Nat) : Prop := ∀ k, k < hl → ∀ j, j < 151 → hi (151 * k + j) = fla (hh k) j
def hlN (hl : Nat) : Nat := if hl = 6 then 6 else hl + 1
def hhN (x : SC) (hl : Nat) (hh : Nat → SC) : Nat → SC := if hl = 6 then fun k => if k = 5 then x else hh (k + 1) else fun k => if k = hl then x else hh k
theorem hlN_le {hl : Nat} (h : hl ≤ 6) : hlN hl ≤ 6 := by unfold hlN; split <;> omega
theorem HI.full {hh : Nat → SC} {hi : Nat → Nat} {x : SC} (h : HI 6 hh hi) : HI (hlN 6) (hhN x 6 hh) (ins (151 * 5) 151 (fla x) (mxn 755 (fun j => hi (j + 151)) hi)) := by
  intro k hk j hj
  have hk : k < 6 := hk
  have e : hhN x 6 hh k = if k = 5 then x else hh (k + 1) := rfl
  rw [e]
  by_cases h5 : k = 5
  · rw [if_pos h5, h5]
    exact ins_in hj
  · rw [if_neg h5, ins_out (by omega), mxn_lo (by omega)]
    show hi (151 * k + j + 151) = _
    rw [show 151 * k + j + 151 = 151 * (k + 1) + j by omega]
    exact h (k + 1) (by omega) j hj
theorem HI.more {hl : Nat} {hh : Nat → SC} {hi : Nat → Nat} {x : SC} (h : HI hl hh hi) (hl6 : hl ≠ 6) : HI (hlN hl) (hhN x hl hh) (ins (151 * hl) 151 (fla x) hi) := by
  intro k hk j hj
  have e1 : hlN hl = hl + 1 := if_neg hl6
  rw [e1] at hk
  have e : hhN x hl hh k = if k = hl then x else hh k := by unfold hhN; rw [if_neg hl6]
  rw [e]
  by_cases h5 : k = hl
  · rw [if_pos h5, h5]
    exact ins_in hj
  · rw [if_neg h5, ins_out (by have : 151 * k + 151 ≤ 151 * hl := by omega
                               omega)]
    exact h k (by omega) j hj
/-- a setting and a value that are in range -/
def okSet (k v : Int32) : Bool := okI 6 k && okI (hv (nN k) + 1) v
theorem okSet_n {k v : Nat} (hk : k < 6) (h : v ≤ hv k) : okSet (nI k) (nI v) = true := by
  have h2 : ∀ j, j < 6 → hv j ≤ 45 := by decide
  have := h2 k hk
  unfold okSet
  rw [okI_n hk (by omega), nN_nI (by omega), okI_n (by omega) (by omega)]
  rfl
def ordN (x : SC) (k v : Nat) : Bool := decide ((if k = 0 then v else scS x 0) < (if k = 1 then v else scS x 1))
theorem sw6 (k : Int32) : k = nI 0 ∨ k = nI 1 ∨ k = nI 2 ∨ k = nI 3 ∨ k = nI 4 ∨ k = nI 5 ∨ (k.toInt < 0 ∨ 5 < k.toInt) := by
  simp only [i_eq, nI_toInt (show 0 < 2 ^ 31 by decide), nI_toInt (show 1 < 2 ^ 31 by decide), nI_toInt (show 2 < 2 ^ 31 by decide), nI_toInt (show 3 < 2 ^ 31 by decide), nI_toInt (show 4 < 2 ^ 31 by decide), nI_toInt (show 5 < 2 ^ 31 by decide)]
  omega
theorem okSet_out {k v : Int32} (h : k.toInt < 0 ∨ 5 < k.toInt) : okSet k v = false := by
  unfold okSet
  have : okI 6 k = false := by
    simp only [okI, decide_eq_false_iff_not]
    omega
  rw [this]; rfl
theorem okSet_k {k : Nat} (hk : k < 6) (v : Int32) : okSet (nI k) v = okI (hv k + 1) v := by
  unfold okSet
  rw [okI_n hk (by omega), nN_nI (by omega)]
  rfl
theorem fla_vF {s f f' b g : Nat → Nat} {c p v : Nat} (hp : p < 48) (hf : ∀ j, upN f p v j = f' j) (j : Nat) : upd (nA (fla (s, f, b, g, c))) (7 + p) (nI v) j = nA (fla (s, f', b, g, c)) j := by
  have e : f' = upN f p v := funext (fun j => (hf j).symm)
  rw [e]
  exact fla_uF (s, f, b, g, c) hp j
theorem fla_vB {s f b b' g : Nat → Nat} {c p v : Nat} (hp : p < 48) (hf : ∀ j, upN b p v j = b' j) (j : Nat) : upd (nA (fla (s, f, b, g, c))) (55 + p) (nI v) j = nA (fla (s, f, b', g, c)) j := by
  have e : b' = upN b p v := funext (fun j => (hf j).symm)
  rw [e]
  exact fla_uB (s, f, b, g, c) hp j
theorem fla_vG {s f b g g' : Nat → Nat} {c p v : Nat} (hp : p < 48) (hf : ∀ j, upN g p v j = g' j) (j : Nat) : upd (nA (fla (s, f, b, g, c))) (103 + p) (nI v) j = nA (fla (s, f, b, g', c)) j := by
  have e : g' = upN g p v := funext (fun j => (hf j).symm)
  rw [e]
  exact fla_uG (s, f, b, g, c) hp j
theorem upN_m {i : Nat} {a b : Nat → Nat} (j : Nat) : upN (mxn i a b) i (a i) j = mxn (i + 1) a b j := by
  unfold mxn upN
  by_cases e : j = i
  · subst e; rw [if_pos rfl, if_pos (by omega)]
  · rw [if_neg e]
    show (if j < i then a j else b j) = _
    by_cases e2 : j < i
    · rw [if_pos e2, if_pos (by omega)]
    · rw [if_neg e2, if_neg (by omega)]
theorem fla_eq {x y : SC} (h1 : ∀ j, j < 6 → scS x j = scS y j) (h2 : ∀ j, j < 48 → scF x j = scF y j) (h3 : ∀ j, j < 48 → scB x j = scB y j) (h4 : ∀ j, j < 48 → scG x j = scG y j) (h5 : scC x = scC y) {j : Nat} (hj : j < 151) : nA (fla x) j = nA (fla y) j := by
  refine congrArg nI ?_
  unfold fla
  split
  · exact h1 j (by omega)
  · split
    · exact h5
    · split
      · exact h2 _ (by omega)
      · split
        · exact h3 _ (by omega)
        · exact h4 _ (by omega)
theorem fla_cF {s f f' b g : Nat → Nat} {c : Nat} (h : ∀ j, j < 48 → f j = f' j) {j : Nat} (hj : j < 151) : nA (fla (s, f, b, g, c)) j = nA (fla (s, f', b, g, c)) j := fla_eq (x := (s, f, b, g, c)) (y := (s, f', b, g, c)) (fun _ _ => rfl) h (fun _ _ => rfl) (fun _ _ => rfl) rfl hj
theorem fla_cB {s f b b' g : Nat → Nat} {c : Nat} (h : ∀ j, j < 48 → b j = b' j) {j : Nat} (hj : j < 151) : nA (fla (s, f, b, g, c)) j = nA (fla (s, f, b', g, c)) j := fla_eq (x := (s, f, b, g, c)) (y := (s, f, b', g, c)) (fun _ _ => rfl) (fun _ _ => rfl) h (fun _ _ => rfl) rfl hj
theorem fla_cG {s f b g g' : Nat → Nat} {c : Nat} (h : ∀ j, j < 48 → g j = g' j) {j : Nat} (hj : j < 151) : nA (fla (s, f, b, g, c)) j = nA (fla (s, f, b, g', c)) j := fla_eq (x := (s, f, b, g, c)) (y := (s, f, b, g', c)) (fun _ _ => rfl) (fun _ _ => rfl) (fun _ _ => rfl) h rfl hj


















/-- a pixel in the rectangle between two -/
def inR (p r j : Nat) : Bool := decide (min (p % 8) (r % 8) ≤ j % 8 ∧ j % 8 ≤ max (p % 8) (r % 8)) && decide (min (p / 8) (r / 8) ≤ j / 8 ∧ j / 8 ≤ max (p / 8) (r / 8))
def filR (p r c : Nat) (f : Nat → Nat) : Nat → Nat := fun j => if inR p r j = true then c else f j
theorem upN_fil {p r c i : Nat} {f : Nat → Nat} (h : inR p r i = true) (j : Nat) : upN (mxn i (filR p r c f) f) i c j = mxn (i + 1) (filR p r c f) f j := by
  have e : c = filR p r c f i := (if_pos h).symm
  have h2 := upN_m (i := i) (a := filR p r c f) (b := f) j
  rw [← e] at h2
  exact h2
theorem mxn_k {i : Nat} {a b : Nat → Nat} (h : b i = a i) (j : Nat) : mxn i a b j = mxn (i + 1) a b j := by
  unfold mxn
  by_cases e : j = i
  · subst e; rw [if_neg (by omega), if_pos (by omega)]; exact h
  · by_cases e2 : j < i
    · rw [if_pos e2, if_pos (by omega)]
    · rw [if_neg e2, if_neg (by omega)]









