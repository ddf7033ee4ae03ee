/-! the pads that isRead fills: pixels told by a dot or by three digits -/
def dg (d : Nat) : Nat := if d < 10 then 48 + d else 87 + d
theorem dg_in : ∀ d, d < 16 → 33 ≤ dg d ∧ dg d ≤ 126 ∧ isP (dg d) = true ∧ pv (dg d) = d ∧ dg d ≠ 46 := by decide
def tlN (d : Nat → Bool) : Nat → Nat
  | 0 => 0
  | j + 1 => tlN d j + (if d j = true then 1 else 3)
theorem tlN_le (d : Nat → Bool) : ∀ n, tlN d n ≤ 3 * n
  | 0 => Nat.le_refl _
  | n + 1 => by
    have := tlN_le d n
    rw [tlN]
    split <;> omega
theorem tlN_mono (d : Nat → Bool) (j : Nat) : ∀ k, tlN d j ≤ tlN d (j + k)
  | 0 => Nat.le_refl _
  | k + 1 => by
    have := tlN_mono d j k
    show _ ≤ tlN d (j + k) + _
    omega
theorem tlN_lt {d : Nat → Bool} {j n : Nat} (h : j < n) : tlN d (j + 1) ≤ tlN d n := by
  have := tlN_mono d (j + 1) (n - (j + 1))
  rwa [show j + 1 + (n - (j + 1)) = n by omega] at this
theorem tlN_t {d : Nat → Bool} {j : Nat} (h : d j = true) : tlN d (j + 1) = tlN d j + 1 := by rw [tlN, if_pos h]
theorem tlN_f {d : Nat → Bool} {j : Nat} (h : d j = false) : tlN d (j + 1) = tlN d j + 3 := by rw [tlN, if_neg (by rw [h]; decide)]
def TK (d : Nat → Bool) (c tx : Nat → Nat) (n : Nat) : Prop := ∀ j, j < n → (d j = true → tx (tlN d j) = 46) ∧ (d j = false → tx (tlN d j) = dg (c j / 256) ∧ tx (tlN d j + 1) = dg (c j / 16 % 16) ∧ tx (tlN d j + 2) = dg (c j % 16))
theorem TK.zero (d : Nat → Bool) (c tx : Nat → Nat) : TK d c tx 0 := fun j h => absurd h (Nat.not_lt_zero j)
abbrev in1 (p c : Nat) (tx : Nat → Nat) : Nat → Nat := ins p 1 (fun _ => c) tx
theorem in1_s (p c : Nat) (tx : Nat → Nat) : in1 p c tx p = c := if_pos ⟨Nat.le_refl _, Nat.lt_succ_self _⟩
theorem in1_n {p c j : Nat} {tx : Nat → Nat} (h : j < p) : in1 p c tx j = tx j := if_neg (by omega)
theorem in1_lt {p c : Nat} {tx : Nat → Nat} (hc : c < 256) (h : ∀ j, j < 48 → tx j < 256) : ∀ j, j < 48 → in1 p c tx j < 256 := fun j hj => by
  show (if _ then _ else _) < 256
  split
  · exact hc
  · exact h j hj
theorem TK.same {d : Nat → Bool} {c tx ty : Nat → Nat} {n : Nat} (h : TK d c tx n) (e : ∀ j, j < tlN d n → ty j = tx j) : TK d c ty n := fun j hj => by
  have hl := tlN_lt (d := d) hj
  refine ⟨fun hd => ?_, fun hd => ?_⟩
  · rw [tlN_t hd] at hl
    rw [e _ (by omega)]
    exact (h j hj).1 hd
  · rw [tlN_f hd] at hl
    rw [e _ (by omega), e _ (by omega), e _ (by omega)]
    exact (h j hj).2 hd
theorem TK.dot {d : Nat → Bool} {c tx : Nat → Nat} {n : Nat} (h : TK d c tx n) (hd : d n = true) : TK d c (in1 (tlN d n) 46 tx) (n + 1) := fun j hj => by
  rcases Nat.lt_or_ge j n with k | k
  · exact h.same (fun j hj => in1_n hj) j k
  · obtain rfl : j = n := by omega
    exact ⟨fun _ => in1_s _ _ _, fun e => absurd (hd.symm.trans e) (by decide)⟩
theorem TK.num {d : Nat → Bool} {c tx : Nat → Nat} {n : Nat} (h : TK d c tx n) (hd : d n = false) : TK d c (in1 (tlN d n + 1 + 1) (dg (c n % 16)) (in1 (tlN d n + 1) (dg (c n / 16 % 16)) (in1 (tlN d n) (dg (c n / 256)) tx))) (n + 1) := fun j hj => by
  rcases Nat.lt_or_ge j n with k | k
  · exact h.same (fun j hj => by rw [in1_n (by omega), in1_n (by omega), in1_n hj]) j k
  · obtain rfl : j = n := by omega
    refine ⟨fun e => absurd (hd.symm.trans e) (by decide), fun _ => ⟨?_, ?_, ?_⟩⟩
    · rw [in1_n (by omega), in1_n (by omega), in1_s]
    · rw [in1_n (by omega), in1_s]
    · exact in1_s _ _ _
section
variable {d : Nat → Bool} {c tx : Nat → Nat}
theorem TK.rd (h : TK d c tx 8) (hc : ∀ j, j < 8 → c j < 4096) : ∀ j, j ≤ 8 → ∃ cl, Rd (tlN d 8) tx j (tlN d j) cl
  | 0, _ => ⟨fun _ => 0, Rd.zero _ _ _⟩
  | j + 1, hj => by
    obtain ⟨cl, hr⟩ := TK.rd h hc j (by omega)
    have hl := tlN_lt (d := d) (show j < 8 by omega)
    have hcj := hc j (by omega)
    cases hd : d j with
    | true =>
      rw [tlN_t hd] at hl ⊢
      exact ⟨_, hr.dot (by omega) ⟨by omega, (h j (by omega)).1 hd⟩⟩
    | false =>
      rw [tlN_f hd] at hl ⊢
      obtain ⟨e0, e1, e2⟩ := (h j (by omega)).2 hd
      exact ⟨_, hr.three (by omega) (by rw [txc_i (by omega), e0]; exact (dg_in _ (by omega)).2.2.1) (by rw [txc_i (by omega), e1]; exact (dg_in _ (by omega)).2.2.1) (by rw [txc_i (by omega), show tlN d j + 1 + 1 = tlN d j + 2 from rfl, e2]; exact (dg_in _ (by omega)).2.2.1)⟩
theorem TK.gd (h : TK d c tx 8) (hc : ∀ j, j < 8 → c j < 4096) : Gd (tlN d 8) tx 8 := by
  obtain ⟨cl, hr⟩ := h.rd hc 8 (Nat.le_refl _)
  exact ⟨Nat.le_refl _, hr.se.symm, hr.ok⟩
theorem TK.fau (h : TK d c tx 8) (hc : ∀ j, j < 8 → c j < 4096) : fau (tlN d 8) tx = -6 := by
  obtain ⟨cl, hr⟩ := h.rd hc 8 (Nat.le_refl _)
  rw [hr.fe, ff_e (Nat.lt_irrefl _), if_neg (by omega)]
theorem TK.st (h : TK d c tx 8) (hc : ∀ j, j < 8 → c j < 4096) {j : Nat} (hj : j ≤ 8) : stp tx j = tlN d j := by
  obtain ⟨cl, hr⟩ := h.rd hc j hj
  exact hr.se.symm
theorem TK.is46 (h : TK d c tx 8) (hc : ∀ j, j < 8 → c j < 4096) {j : Nat} (hj : j < 8) : tx (stp tx j) = 46 ↔ d j = true := by
  rw [h.st hc (by omega)]
  refine ⟨fun e => ?_, fun e => (h j hj).1 e⟩
  have hcj := hc j hj
  cases hd : d j with
  | true => rfl
  | false => exact absurd (((h j hj).2 hd).1.symm.trans e) (dg_in _ (by omega)).2.2.2.2
theorem TK.cv (h : TK d c tx 8) (hc : ∀ j, j < 8 → c j < 4096) {j : Nat} (hj : j < 8) (hd : d j = false) : cv3 (tlN d 8) tx (stp tx j) = c j := by
  have hl := tlN_lt (d := d) (show j < 8 by omega)
  rw [tlN_f hd] at hl
  rw [h.st hc (by omega)]
  have hcj := hc j hj
  obtain ⟨e0, e1, e2⟩ := (h j hj).2 hd
  unfold cv3
  rw [txc_i (by omega), txc_i (by omega), txc_i (by omega), e0, e1, show tlN d j + 1 + 1 = tlN d j + 2 from rfl, e2, (dg_in _ (by omega)).2.2.2.1, (dg_in _ (by omega)).2.2.2.1, (dg_in _ (by omega)).2.2.2.1]
  omega
theorem TK.rdfE (h : TK d c tx 8) (hc : ∀ j, j < 8 → c j < 4096) (b : Nat) (f : Nat → Nat) (p : Nat) : ∀ i, i ≤ 8 → rdF (tlN d 8) tx b f i p = if b ≤ p ∧ p < b + i ∧ d (p - b) = false then c (p - b) else f p
  | 0, _ => by
    rw [if_neg (by omega)]
    rfl
  | i + 1, hi => by
    have ih := TK.rdfE h hc b f p i (by omega)
    have h46 := h.is46 hc (show i < 8 by omega)
    cases hd : d i with
    | true =>
      rw [rdF_d (h46.mpr hd), ih]
      by_cases e : b ≤ p ∧ p < b + i ∧ d (p - b) = false
      · rw [if_pos e, if_pos ⟨e.1, by omega, e.2.2⟩]
      · rw [if_neg e, if_neg (fun z => e ⟨z.1, by
          rcases Nat.lt_or_ge p (b + i) with k | k
          · exact k
          · have e2 : p - b = i := by omega
            rw [e2] at z
            exact absurd (hd.symm.trans z.2.2) (by decide), z.2.2⟩)]
    | false =>
      rw [rdF_n (fun e => absurd ((h46.mp e).symm.trans hd) (by decide)), h.cv hc (by omega) hd]
      by_cases e : p = b + i
      · subst e
        rw [upN_s, if_pos ⟨by omega, by omega, by rw [show b + i - b = i by omega]; exact hd⟩, show b + i - b = i by omega]
      · rw [upN_n e, ih]
        by_cases e2 : b ≤ p ∧ p < b + i ∧ d (p - b) = false
        · rw [if_pos e2, if_pos ⟨e2.1, by omega, e2.2.2⟩]
        · rw [if_neg e2, if_neg (fun z => e2 ⟨z.1, by omega, z.2.2⟩)]
def dcN (d : Nat → Bool) (n : Nat) : Nat := sumN n (fun j => bN (d j))
theorem TK.rdcE (h : TK d c tx 8) (hc : ∀ j, j < 8 → c j < 4096) : ∀ i, i ≤ 8 → rdC tx i + dcN d i = i
  | 0, _ => rfl
  | i + 1, hi => by
    have ih := TK.rdcE h hc i (by omega)
    have h46 := h.is46 hc (show i < 8 by omega)
    show rdC tx (i + 1) + (dcN d i + bN (d i)) = i + 1
    cases hd : d i with
    | true =>
      rw [← rdC_d (h46.mpr hd)]
      show _ + (_ + 1) = _
      omega
    | false =>
      rw [← rdC_n (fun e => absurd ((h46.mp e).symm.trans hd) (by decide))]
      show _ + (_ + 0) = _
      omega
end
abbrev rv {T : Type} (f : Nat → T) : Nat → T := fun j => f (7 - j)
/-- the column of a step -/
def clk (k : Nat) : Nat := if k < 8 then k else 15 - k
theorem clk_lo {k : Nat} (h : k < 8) : clk k = k := if_pos h
theorem clk_hi {k : Nat} (h : ¬ k < 8) : clk k = 15 - k := if_neg h
theorem sumN_16 (g : Nat → Nat) : sumN 16 g = 0 + g 0 + g 1 + g 2 + g 3 + g 4 + g 5 + g 6 + g 7 + g 8 + g 9 + g 10 + g 11 + g 12 + g 13 + g 14 + g 15 := rfl
theorem dcs_16 (d : Nat → Bool) : sumN 16 (fun k => bN (d (clk k))) = 2 * dcN d 8 := by
  rw [sumN_16]
  show 0 + bN (d 0) + bN (d 1) + bN (d 2) + bN (d 3) + bN (d 4) + bN (d 5) + bN (d 6) + bN (d 7) + bN (d 7) + bN (d 6) + bN (d 5) + bN (d 4) + bN (d 3) + bN (d 2) + bN (d 1) + bN (d 0) = 2 * (0 + bN (d 0) + bN (d 1) + bN (d 2) + bN (d 3) + bN (d 4) + bN (d 5) + bN (d 6) + bN (d 7))
  omega
theorem dcN_rv (d : Nat → Bool) : dcN (rv d) 8 = dcN d 8 := by
  show 0 + bN (d 7) + bN (d 6) + bN (d 5) + bN (d 4) + bN (d 3) + bN (d 2) + bN (d 1) + bN (d 0) = 0 + bN (d 0) + bN (d 1) + bN (d 2) + bN (d 3) + bN (d 4) + bN (d 5) + bN (d 6) + bN (d 7)
  omega
theorem rd_m {d : Nat → Bool} {c tx ty : Nat → Nat} (h1 : TK d c tx 8) (h2 : TK (rv d) (rv c) ty 8) (hc : ∀ j, j < 8 → c j < 4096) (w : Nat) (f : Nat → Nat) : rdF (tlN (rv d) 8) ty (8 * w) (mF f) 8 = mF (rdF (tlN d 8) tx (8 * w) f 8) := by
  funext p
  rw [h2.rdfE (fun j hj => hc _ (by omega)) _ _ _ 8 (Nat.le_refl _)]
  show _ = rdF (tlN d 8) tx (8 * w) f 8 (mP p)
  rw [h1.rdfE hc _ _ _ 8 (Nat.le_refl _)]
  have e1 := mP_div p
  have e2 := mP_mod p
  by_cases e : p / 8 = w
  · rw [show mP p - 8 * w = 7 - (p - 8 * w) by omega]
    by_cases z : d (7 - (p - 8 * w)) = false
    · rw [if_pos ⟨by omega, by omega, z⟩, if_pos ⟨by omega, by omega, z⟩]
    · rw [if_neg (fun q => z q.2.2), if_neg (fun q => z q.2.2)]
      rfl
  · rw [if_neg (fun q => e (by omega)), if_neg (fun q => e (by omega))]
    rfl
theorem Rel.read {q r : OQ} (h : Rel q r) {d : Nat → Bool} {c tx ty : Nat → Nat} (h1 : TK d c tx 8) (h2 : TK (rv d) (rv c) ty 8) (hc : ∀ j, j < 8 → c j < 4096) (ht : ∀ j, j < 48 → tx j < 256) (hy : ∀ j, j < 48 → ty j < 256) (b : Bool) (w : Nat) (hw : w < 6) : Rel (qRd (qPd q tx (tlN d 8)) b w 8) (qRd (qPd r ty (tlN (rv d) 8)) b w 8) := by
  have hx : SInv (pnt b (oX q) (rdF (tlN d 8) tx (8 * w) (pic b (oX q)) 8)) := h.q.x.pnt b (rdF_in (h1.gd hc) (h.q.x.pic b) 8 (Nat.le_refl _))
  have e : pnt b (oX r) (rdF (tlN (rv d) 8) ty (8 * w) (pic b (oX r)) 8) = miS (pnt b (oX q) (rdF (tlN d 8) tx (8 * w) (pic b (oX q)) 8)) := by
    rw [h.x, pic_m, rd_m h1 h2 hc, pnt_m]
  have hr := (h.ch hx e).pd (tx := tx) (ty := ty) (tl := 0) (ul := 0) ⟨Nat.zero_le _, ht⟩ ⟨Nat.zero_le _, hy⟩
  exact hr
