/-! TWO OBJECTS, the second with left and right changed -/
def slM : SLT → SLT → Prop
  | none, none => True
  | some p, some r => r.2 = miS p.2
  | _, _ => False
def Rel (q r : OQ) : Prop := OBI q ∧ OBI r ∧ oX r = miS (oX q) ∧ (∀ j, oR r j = miS (oR q j)) ∧ oO r = oO q ∧ oN r = oN q ∧ slM (oA q) (oA r) ∧ slM (oB q) (oB r)
theorem Rel.q {z r : OQ} (h : Rel z r) : OBI z := h.1
theorem Rel.r {q z : OQ} (h : Rel q z) : OBI z := h.2.1
section
variable {q r : OQ}
theorem Rel.x (h : Rel q r) : oX r = miS (oX q) := h.2.2.1
theorem Rel.R (h : Rel q r) : ∀ j, oR r j = miS (oR q j) := h.2.2.2.1
theorem Rel.o (h : Rel q r) : oO r = oO q := h.2.2.2.2.1
theorem Rel.n (h : Rel q r) : oN r = oN q := h.2.2.2.2.2.1
theorem Rel.a (h : Rel q r) : slM (oA q) (oA r) := h.2.2.2.2.2.2.1
theorem Rel.b (h : Rel q r) : slM (oB q) (oB r) := h.2.2.2.2.2.2.2
theorem Rel.ch (h : Rel q r) {x2 y2 : SC} (hx : SInv x2) (e : y2 = miS x2) : Rel (qC q x2) (qC r y2) := by
  subst e
  refine ⟨h.q.ch hx, h.r.ch (miS_inv hx), rfl, fun j => ?_, ?_, ?_, h.a, h.b⟩
  · show rgu (oR r) ((oO r + oN r) % 6) (oX r) j = miS (rgu (oR q) ((oO q + oN q) % 6) (oX q) j)
    rw [h.o, h.n, h.x]
    unfold rgu
    split
    · rfl
    · exact h.R j
  · show onN (oO r) (oN r) = onN (oO q) (oN q)
    rw [h.o, h.n]
  · show hlN (oN r) = hlN (oN q)
    rw [h.n]
theorem Rel.set (h : Rel q r) {k v : Nat} (hv_ : v ≤ hv k) : Rel (qSet q k v) (qSet r k v) := by
  have e : ordN (oX r) k v = ordN (oX q) k v := by rw [h.x]; rfl
  unfold qSet
  rw [e]
  cases ho : ordN (oX q) k v
  · rw [if_neg (by decide), if_neg (by decide)]; exact h
  · rw [if_pos rfl, if_pos rfl]
    exact h.ch (h.q.x.set hv_ ho) (by rw [h.x])
theorem Rel.aset (h : Rel q r) (k v : Nat) : aSet r k v = aSet q k v := by
  unfold aSet
  rw [h.x]
  rfl
theorem Rel.screen (h : Rel q r) {c : Nat} (hc : c < 4096) : Rel (qC q (scS (oX q), scF (oX q), scB (oX q), scG (oX q), c)) (qC r (scS (oX r), scF (oX r), scB (oX r), scG (oX r), c)) :=
  h.ch (h.q.x.scr hc) (by rw [h.x])
theorem SInv.pnt {x : SC} (h : SInv x) (b : Bool) {f : Nat → Nat} (hf : ∀ j, j < 48 → f j < 4096) : SInv (pnt b x f) := by
  cases b
  · exact h.bk hf
  · exact h.fr hf
theorem SInv.pic {x : SC} (h : SInv x) (b : Bool) : ∀ j, j < 48 → pic b x j < 4096 := by
  cases b
  · exact h.b
  · exact h.f
theorem pic_m (b : Bool) (x : SC) : pic b (miS x) = mF (pic b x) := by cases b <;> rfl
theorem pnt_m (b : Bool) (x : SC) (f : Nat → Nat) : pnt b (miS x) (mF f) = miS (pnt b x f) := by cases b <;> rfl
theorem Rel.paint (h : Rel q r) (b : Bool) {p c : Nat} (hc : c < 4096) : Rel (qC q (pnt b (oX q) (upN (pic b (oX q)) p c))) (qC r (pnt b (oX r) (upN (pic b (oX r)) (mP p) c))) :=
  h.ch (h.q.x.pnt b (upN_in (h.q.x.pic b) hc)) (by rw [h.x, pic_m, ← mF_up, pnt_m])
theorem Rel.fill (h : Rel q r) (b : Bool) {p s c : Nat} (hc : c < 4096) : Rel (qC q (pnt b (oX q) (filR p s c (pic b (oX q))))) (qC r (pnt b (oX r) (filR (mP s) (mP p) c (pic b (oX r))))) :=
  h.ch (h.q.x.pnt b (filR_in (h.q.x.pic b) hc)) (by rw [h.x, pic_m, fil_m, pnt_m])
theorem Rel.sum_fill (p s : Nat) : sumN 48 (fun j => bN (inR (mP s) (mP p) j)) = sumN 48 (fun j => bN (inR p s j)) := inR_sum_m p s
theorem Rel.mgx (h : Rel q r) (p : Nat) : scG (oX r) (mP p) = scG (oX q) p := by
  rw [h.x]
  show scG (oX q) (mP (mP p)) = _
  rw [mP_mP]
theorem Rel.mark (h : Rel q r) (p : Nat) (b : Bool) : Rel (qMrk q p b) (qMrk r (mP p) b) := by
  unfold qMrk
  rw [h.mgx]
  by_cases e : scG (oX q) p = bN b
  · rw [if_pos e, if_pos e]; exact h
  · rw [if_neg e, if_neg e]
    refine h.ch ⟨h.q.x.1, h.q.x.2.1, h.q.x.f, h.q.x.b, fun j hj => ?_, h.q.x.c⟩ ?_
    · show upN (scG (oX q)) p (bN b) j ≤ 1
      unfold upN
      split
      · exact bN_le b
      · exact h.q.x.g j hj
    · rw [h.x]
      show (scS (oX q), mF (scF (oX q)), mF (scB (oX q)), upN (mF (scG (oX q))) (mP p) (bN b), scC (oX q)) = (scS (oX q), mF (scF (oX q)), mF (scB (oX q)), mF (upN (scG (oX q)) p (bN b)), scC (oX q))
      rw [mF_up]
theorem Rel.amark (h : Rel q r) (p : Nat) (b : Bool) : aMrk r (mP p) b = aMrk q p b := by
  unfold aMrk
  rw [h.mgx, h.x]
  show (if scG (oX q) p = bN b then (-5 : Int32) else nI (sumN 48 (upN (mF (scG (oX q))) (mP p) (bN b)))) = _
  rw [← mF_up, sumN_m]
theorem Rel.keep (h : Rel q r) : Rel (qKep q) (qKep r) := by
  refine h.ch h.q.x.kp ?_
  rw [h.x]
  show (scS (oX q), cmpF (miS (oX q)), mF (scB (oX q)), zN, scC (oX q)) = (scS (oX q), mF (cmpF (oX q)), mF (scB (oX q)), mF zN, scC (oX q))
  rw [cmp_m]
  rfl
theorem Rel.akeep (h : Rel q r) : sumN 48 (fun j => bN (!decide (scF (oX r) j = cmpF (oX r) j))) = sumN 48 (fun j => bN (!decide (scF (oX q) j = cmpF (oX q) j))) := by
  rw [h.x]
  exact sumN_mm (fun j => by rw [cmp_m]; rfl)
theorem Rel.pd (h : Rel q r) {tx ty : Nat → Nat} {tl ul : Nat} (h1 : TI tl tx) (h2 : TI ul ty) : Rel (qPd q tx tl) (qPd r ty ul) :=
  ⟨⟨h.q.x, h.q.r, h.q.o, h.q.n, h.q.a, h.q.b, h1⟩, ⟨h.r.x, h.r.r, h.r.o, h.r.n, h.r.a, h.r.b, h2⟩, h.x, h.R, h.o, h.n, h.a, h.b⟩
theorem Rel.und (h : Rel q r) : Rel (qUnd q) (qUnd r) := by
  unfold qUnd
  rw [h.n, h.o]
  by_cases e : oN q = 0
  · rw [if_pos e, if_pos e]; exact h
  · rw [if_neg e, if_neg e]
    have hn := h.q.n
    have hi := Nat.mod_lt (oO q + oN q - 1) (show 0 < 6 by decide)
    exact ⟨⟨h.q.r _ hi, h.q.r, h.q.o, by show oN q - 1 ≤ 6; omega, h.q.a, h.q.b, h.q.t⟩, ⟨h.r.r _ hi, h.r.r, h.q.o, by show oN q - 1 ≤ 6; omega, h.r.a, h.r.b, h.r.t⟩, h.R _, h.R, rfl, rfl, h.a, h.b⟩
theorem Rel.aund (h : Rel q r) : aUnd r = aUnd q := by
  unfold aUnd
  rw [h.n]
theorem slI.sv {x : SC} (h : SInv x) (a : Nat → Nat) : slI (some (a, x)) := fun p e => by cases e; exact h
theorem Rel.sav (h : Rel q r) (s : Nat) (b c : Nat → Nat) : Rel (qSav q s b) (qSav r s c) := by
  unfold qSav
  by_cases e : s = 0
  · rw [if_pos e, if_pos e]
    exact ⟨⟨h.q.x, h.q.r, h.q.o, h.q.n, slI.sv h.q.x _, h.q.b, h.q.t⟩, ⟨h.r.x, h.r.r, h.r.o, h.r.n, slI.sv h.r.x _, h.r.b, h.r.t⟩, h.x, h.R, h.o, h.n, h.x, h.b⟩
  · rw [if_neg e, if_neg e]
    exact ⟨⟨h.q.x, h.q.r, h.q.o, h.q.n, h.q.a, slI.sv h.q.x _, h.q.t⟩, ⟨h.r.x, h.r.r, h.r.o, h.r.n, h.r.a, slI.sv h.r.x _, h.r.t⟩, h.x, h.R, h.o, h.n, h.a, h.x⟩
theorem Rel.slq (h : Rel q r) (s : Nat) : slM (slt q s) (slt r s) ∧ slI (slt q s) := by
  unfold slt
  split
  · exact ⟨h.a, h.q.a⟩
  · exact ⟨h.b, h.q.b⟩
theorem Rel.res (h : Rel q r) (s : Nat) : Rel (qRes q s) (qRes r s) := by
  obtain ⟨h1, h2⟩ := h.slq s
  unfold qRes
  generalize slt q s = S at h1 h2
  generalize slt r s = T at h1
  cases S with
  | none => cases T with
    | none => exact h
    | some p => exact h1.elim
  | some p => cases T with
    | none => exact h1.elim
    | some p2 => exact h.ch (h2 p rfl) h1
theorem Rel.ares (h : Rel q r) (s : Nat) : aRes r s = aRes q s := by
  obtain ⟨h1, h2⟩ := h.slq s
  unfold aRes
  generalize slt q s = S at h1 h2
  generalize slt r s = T at h1
  cases S with
  | none => cases T with
    | none => rfl
    | some p => exact h1.elim
  | some p => cases T with
    | none => exact h1.elim
    | some p2 =>
      show nI (sumN 48 (scG p2.2)) = nI (sumN 48 (scG p.2))
      rw [show p2.2 = miS p.2 from h1]
      exact congrArg nI (sumN_m (scG p.2))
theorem Rel.asum (h : Rel q r) : sumN 48 (scG (oX r)) = sumN 48 (scG (oX q)) := by
  rw [h.x]
  exact sumN_m (scG (oX q))
theorem Rel.cnt (h : Rel q r) {k : Nat} (hk : k ≠ 19) : cnN (oX r) (oL r) (oN r) k = cnN (oX q) (oL q) (oN q) k := by
  rw [h.x, h.n]
  exact cnN_m (oX q) (oL r) (oL q) (oN q) k hk
theorem Rel.px (h : Rel q r) (p k : Nat) : pxN (oX r) (mP p) k = pxN (oX q) p k := by
  rw [h.x, pxN_m, mP_mP]
theorem Rel.bsc (h : Rel q r) : (bst (oX r) 48).2 = (bst (oX q) 48).2 := by
  rw [h.x]
  exact bst_m _
theorem Rel.bsh (h : Rel q r) (k w : Nat) : (if w = 0 then (bsh (oX r) k 17).1 else (bsh (oX r) k 17).2) = (if w = 0 then (bsh (oX q) k 17).1 else (bsh (oX q) k 17).2) := by
  rw [h.x, bsh_m]
theorem Rel.aif (h : Rel q r) (k v : Nat) : aIf (oX r) k v = aIf (oX q) k v := by
  rw [h.x]
  unfold aIf
  rw [show ordN (miS (oX q)) k v = ordN (oX q) k v from rfl, show (upN (scS (miS (oX q))) k v, (miS (oX q)).2) = miS (upN (scS (oX q)) k v, (oX q).2) from rfl, cmp_sum_m]
theorem Rel.near (h : Rel q r) (p : Nat) : (if dist (scF (oX r) (mP p)) (scC (oX r)) < scS (oX r) 1 then nI (dist (scF (oX r) (mP p)) (scC (oX r))) else (-6 : Int32)) = (if dist (scF (oX q) p) (scC (oX q)) < scS (oX q) 1 then nI (dist (scF (oX q) p) (scC (oX q))) else (-6 : Int32)) := by
  rw [h.x]
  show (if dist (scF (oX q) (mP (mP p))) (scC (oX q)) < scS (oX q) 1 then nI (dist (scF (oX q) (mP (mP p))) (scC (oX q))) else (-6 : Int32)) = _
  rw [mP_mP]
end
/-! what is told stays below a bound -/
theorem aIf_same {x : SC} (h : SInv x) {k : Nat} (hk : k < 6) : aIf x k (scS x k) = nI 0 := by
  have hs := h.lt
  unfold aIf
  have ho : ordN x k (scS x k) = true := by
    unfold ordN
    rw [decide_eq_true_eq]
    by_cases h0 : k = 0
    · subst h0; rw [if_pos rfl, if_neg (by decide)]; exact hs
    · rw [if_neg h0]
      by_cases h1 : k = 1
      · subst h1; rw [if_pos rfl]; exact hs
      · rw [if_neg h1]; exact hs
  rw [if_pos ho, upN_id]
  refine congrArg nI ?_
  have e : ∀ j, bN (!decide (cmpF x j = cmpF (scS x, x.2) j)) = 0 := fun j => by
    rw [show ((scS x, x.2) : SC) = x from rfl, decide_eq_true rfl]; rfl
  have := sumN_le (n := 48) (f := fun j => bN (!decide (cmpF x j = cmpF (scS x, x.2) j))) (b := 0) (fun j _ => Nat.le_of_eq (e j))
  omega
theorem cnN_b {x : SC} (h : SInv x) {t n : Nat} (ht : t ≤ 48) (hn : n ≤ 6) (k : Nat) : cnN x t n k < 4096 := by
  have hs : ∀ f : Nat → Nat, (∀ j, j < 48 → f j ≤ 16) → sumN 48 f < 4096 := fun f hf => by
    have := sumN_le (n := 48) (f := f) (b := 16) hf
    omega
  unfold cnN
  split
  · have := h.s (j := k) (by assumption); omega
  · split
    · exact h.c
    · split
      · exact hs _ (fun j _ => Nat.le_trans (bN_le _) (by decide))
      · split
        · refine hs _ (fun j _ => ?_)
          unfold ovf
          split
          · exact opqF_le x j
          · split
            · exact Nat.le_of_lt (splF_lt x j)
            · split
              · exact Nat.le_of_lt (tknF_lt h j)
              · split
                · exact Nat.le_trans (bN_le _) (by decide)
                · split
                  · exact Nat.le_trans (bN_le _) (by decide)
                  · exact Nat.le_trans (bN_le _) (by decide)
        · split
          · exact hs _ (fun j hj => Nat.le_trans (h.g j hj) (by decide))
          · split <;> omega
theorem pxN_b {x : SC} (h : SInv x) {p : Nat} (hp : p < 48) (k : Nat) : pxN x p k < 4096 := by
  rcases (show k = 0 ∨ k = 1 ∨ k = 2 ∨ k = 3 ∨ k = 4 ∨ k = 5 ∨ k = 6 ∨ k = 7 ∨ k = 8 ∨ 9 ≤ k by omega) with rfl | rfl | rfl | rfl | rfl | rfl | rfl | rfl | rfl | c
  · exact h.f p hp
  · exact h.b p hp
  · exact Nat.lt_of_le_of_lt (dist_le _ _) (by decide)
  · exact Nat.lt_of_le_of_lt (rawF_le x p) (by decide)
  · exact Nat.lt_of_le_of_lt (opqF_le x p) (by decide)
  · exact Nat.lt_of_le_of_lt (kndF_le x p) (by decide)
  · exact Nat.lt_trans (splF_lt x p) (by decide)
  · exact Nat.lt_trans (tknF_lt h p) (by decide)
  · exact clnF_lt h hp
  · obtain ⟨d, rfl⟩ := Nat.exists_eq_add_of_le c
    rw [Nat.add_comm]
    exact cmpF_lt x p
