/-! texts: longs as naturals below 2^64; characters -/
section
variable {G : VC} {A : Nat → Prop} {X : VX} {R : Room} {ws : va_W} {kc ks pc : Nat} {lv : List (Option Value)} {st : List Value}
theorem V.locl {x y : Int64} {lv' : List (Option Value)} (i : Nat) (h : x = y) (hx : lv[i]? = some (some (.long x))) (hlv : lv.set i (some (.long y)) = lv') (k : V G A X R ws kc ks pc lv' st) : V G A X R ws kc ks pc lv st := by
  have e : lv = lv' := by
    rw [← hlv]
    subst h
    apply List.ext_getElem?
    intro j
    by_cases hj : j = i
    · subst hj
      rw [List.getElem?_set_self (List.getElem?_eq_some_iff.mp hx).1, hx]
    · rw [List.getElem?_set_ne (Ne.symm hj)]
  rw [e]; exact k
end
def un (c : Int64) : Nat := c.toBitVec.toNat
theorem un_lt (c : Int64) : un c < 2 ^ 64 := c.toBitVec.isLt
theorem ln_bv (n : Nat) : (lN n).toBitVec = BitVec.ofNat 64 n := by unfold lN; simp
theorem ln_un (c : Int64) : c = lN (un c) := by
  apply Int64.toBitVec_inj.mp
  rw [ln_bv]
  simp [un]
theorem ln_nat {n : Nat} (h : n < 2 ^ 64) : (lN n).toBitVec.toNat = n := by rw [ln_bv, BitVec.toNat_ofNat, Nat.mod_eq_of_lt h]
theorem ln_land (n : Nat) : lN n &&& 255 = lN (n % 256) := by
  apply Int64.toBitVec_inj.mp
  rw [Int64.toBitVec_and, ln_bv, ln_bv]
  apply BitVec.eq_of_toNat_eq
  rw [BitVec.toNat_and, BitVec.toNat_ofNat, BitVec.toNat_ofNat]
  have e : (Int64.toBitVec 255).toNat = 2 ^ 8 - 1 := rfl
  rw [e, Nat.and_two_pow_sub_one_eq_mod]
  omega
theorem ln_sh : ∀ k, k < 64 → (((nI k).toInt64.toUInt64 &&& Int64.toUInt64 63).toBitVec % 64).toNat = k := by decide
theorem ln_ushr {n k : Nat} (hn : n < 2 ^ 64) (hk : k < 64) : ((lN n).toUInt64 >>> ((nI k).toInt64.toUInt64 &&& Int64.toUInt64 63)).toInt64 = lN (n / 2 ^ k) := by
  apply Int64.toBitVec_inj.mp
  apply BitVec.eq_of_toNat_eq
  rw [ln_nat (Nat.lt_of_le_of_lt (Nat.div_le_self _ _) hn)]
  show ((lN n).toUInt64 >>> ((nI k).toInt64.toUInt64 &&& Int64.toUInt64 63)).toBitVec.toNat = _
  rw [UInt64.toBitVec_shiftRight, BitVec.ushiftRight_eq', BitVec.toNat_ushiftRight, ln_sh k hk, Nat.shiftRight_eq_div_pow]
  show (lN n).toBitVec.toNat / 2 ^ k = _
  rw [ln_nat hn]
theorem ln_0 {n : Nat} (hn : n < 2 ^ 64) (h : lg_cmp (lN n) (0 : Int64) = 0) : n = 0 := by
  unfold lg_cmp at h
  split at h
  · exact absurd h (by decide)
  · split at h
    · rename_i e
      have e2 := congrArg (fun x : Int64 => x.toBitVec.toNat) e
      rw [show (lN n).toBitVec.toNat = n from ln_nat hn] at e2
      exact e2
    · exact absurd h (by decide)
theorem ln_n0 {n : Nat} (h : ¬ lg_cmp (lN n) (0 : Int64) = 0) : n ≠ 0 := by
  rintro rfl
  exact h (by decide)
theorem inL_lN {a b c : Nat} (ha : a < 2 ^ 31) (hb : b < 2 ^ 31) (hc : c < 2 ^ 31) : inL (lN a) (lN b) (lN c) = decide (b ≤ a ∧ a ≤ c) := by
  unfold inL
  rw [decide_eq_decide, lN_le hb ha, lN_le ha hc]
/-- the character i of a number, and whether it is one -/
def cdN (u i : Nat) : Nat := u / 256 ^ i % 256
def isC (k : Nat) : Bool := decide (33 ≤ k ∧ k ≤ 126)
/-- how many characters a number holds, from the character i on; f more may follow -/
def chS (u : Nat) : Nat → Nat → Nat
  | 0, i => i
  | f + 1, i => if u / 256 ^ i = 0 then i else if isC (cdN u i) = true then chS u f (i + 1) else 0
theorem cd_0 {u i : Nat} (h : u / 256 ^ i = 0) : isC (cdN u i) = false := by
  unfold cdN; rw [h]; decide
theorem chS_t {u f i : Nat} (h : isC (cdN u i) = true) : chS u (f + 1) i = chS u f (i + 1) := by
  have h0 : ¬ u / 256 ^ i = 0 := fun e => absurd ((cd_0 e).symm.trans h) (by decide)
  rw [chS, if_neg h0, if_pos h]
theorem chS_0 {u f i : Nat} (h : u / 256 ^ i = 0) : chS u f i = i := by
  cases f with
  | zero => rfl
  | succ f => rw [chS, if_pos h]
theorem chS_f {u f i : Nat} (h0 : ¬ u / 256 ^ i = 0) (h : isC (cdN u i) = false) : chS u (f + 1) i = 0 := by
  rw [chS, if_neg h0, if_neg (by rw [h]; decide)]
theorem u_8 {u : Nat} (h : u < 2 ^ 64) : u / 256 ^ 8 = 0 := Nat.div_eq_of_lt (by omega)
theorem u_s (u i : Nat) : u / 256 ^ i / 2 ^ 8 = u / 256 ^ (i + 1) := by rw [Nat.div_div_eq_div_mul]; rfl
theorem u_lt {u i : Nat} (h : u < 2 ^ 64) : u / 256 ^ i < 2 ^ 64 := Nat.lt_of_le_of_lt (Nat.div_le_self _ _) h
theorem cd_lt (u i : Nat) : cdN u i < 256 := Nat.mod_lt _ (by decide)
theorem chS_le (u : Nat) : ∀ f i, i + f ≤ 8 → chS u f i ≤ 8
  | 0, i, h => h
  | f + 1, i, h => by
    rw [chS]
    split
    · omega
    · split
      · exact chS_le u f (i + 1) (by omega)
      · omega
abbrev chN (u : Nat) : Nat := chS u 8 0
theorem chN_le (u : Nat) : chN u ≤ 8 := chS_le u 8 0 (by omega)
/-- every character of a number that is told as one is one -/
theorem chS_c {u : Nat} : ∀ f i j, i ≤ j → j < chS u f i → isC (cdN u j) = true
  | 0, i, j, h, hj => absurd hj (by rw [chS]; omega)
  | f + 1, i, j, h, hj => by
    rw [chS] at hj
    split at hj
    · omega
    · split at hj
      · rename_i hc
        by_cases e : j = i
        · subst e; exact hc
        · exact chS_c f (i + 1) j (by omega) hj
      · omega
/-- what is put: the first character of the text is the highest of the number -/
def putF (u : Nat) : Nat → Nat := fun i => cdN u (chN u - 1 - i)
theorem putF_e (u i : Nat) : u / 2 ^ (8 * (chN u - 1 - i)) % 256 = putF u i := by
  unfold putF cdN
  rw [Nat.pow_mul]
/-- a character that tells a part, and the part -/
def isP (c : Nat) : Bool := decide (48 ≤ c ∧ c ≤ 57 ∨ 97 ≤ c ∧ c ≤ 102)
def pv (c : Nat) : Nat := if c ≤ 57 then c - 48 else c - 87
theorem pv_lt {c : Nat} (h : isP c = true) : pv c < 16 := by
  have h := of_decide_eq_true h
  unfold pv
  split <;> omega
theorem pv_6 {c : Nat} (h : isP c = true) : ¬ nI (pv c) = -6 := by
  have h := pv_lt h
  rw [i_eq, nI_toInt (by omega), show (-6 : Int32).toInt = -6 from rfl]
  omega
/-- the character at a place of the text, 0 behind its end -/
def txc (tl : Nat) (tx : Nat → Nat) (s : Nat) : Nat := if s < tl then tx s else 0
/-- the text: its length, its characters -/
def TI (tl : Nat) (tx : Nat → Nat) : Prop := tl ≤ 48 ∧ ∀ j, j < 48 → tx j < 256
theorem TI.c {tl : Nat} {tx : Nat → Nat} (h : TI tl tx) (s : Nat) : txc tl tx s < 256 := by
  unfold txc
  split
  · exact h.2 s (by have := h.1; omega)
  · decide
theorem TI.put {tl : Nat} {tx : Nat → Nat} (h : TI tl tx) {u : Nat} (hm : tl + chN u ≤ 48) : TI (tl + chN u) (ins tl (chN u) (putF u) tx) := by
  refine ⟨hm, fun j hj => ?_⟩
  unfold ins
  split
  · exact cd_lt _ _
  · exact h.2 j hj
theorem TI.wipe {tl : Nat} {tx : Nat → Nat} (h : TI tl tx) : TI 0 tx := ⟨by decide, h.2⟩
theorem txc_i {tl s : Nat} {tx : Nat → Nat} (h : s < tl) : txc tl tx s = tx s := if_pos h
theorem txc_o {tl s : Nat} {tx : Nat → Nat} (h : ¬ s < tl) : txc tl tx s = 0 := if_neg h
theorem isP_1 {c : Nat} (h : decide (48 ≤ c ∧ c ≤ 57) = true) : isP c = true ∧ pv c = c - 48 := by
  have h := of_decide_eq_true h
  exact ⟨decide_eq_true (by omega), if_pos (by omega)⟩
theorem isP_2 {c : Nat} (h1 : decide (48 ≤ c ∧ c ≤ 57) = false) (h : decide (97 ≤ c ∧ c ≤ 102) = true) : isP c = true ∧ pv c = c - 87 := by
  have h := of_decide_eq_true h
  exact ⟨decide_eq_true (by omega), if_neg (by omega)⟩
theorem isP_0 {c : Nat} (h1 : decide (48 ≤ c ∧ c ≤ 57) = false) (h : decide (97 ≤ c ∧ c ≤ 102) = false) : isP c = false := by
  have h := of_decide_eq_false h
  have h1 := of_decide_eq_false h1
  exact decide_eq_false (by omega)
theorem isP_in {tl s : Nat} {tx : Nat → Nat} (h : isP (txc tl tx s) = true) : s < tl := by
  rcases Nat.lt_or_ge s tl with h1 | h1
  · exact h1
  · rw [txc_o (by omega)] at h; exact absurd h (by decide)
theorem upd_uu (f : Nat → Int32) (i : Nat) (x y : Int32) (j : Nat) : upd (upd f i x) i y j = upd f i y j := by
  unfold upd
  by_cases h : j = i
  · rw [if_pos h, if_pos h]
  · rw [if_neg h, if_neg h, if_neg h]
def cv3 (tl : Nat) (tx : Nat → Nat) (s : Nat) : Nat := 16 * (16 * pv (txc tl tx s) + pv (txc tl tx (s + 1))) + pv (txc tl tx (s + 1 + 1))
theorem dotP {tl s : Nat} {tx : Nat → Nat} (h : tx s = 46) : isP (txc tl tx s) = false := by
  unfold txc
  split
  · rw [h]; decide
  · decide
theorem rcC (tl : Nat) (tx : Nat → Nat) (s : Nat) : (s < tl ∧ tx s = 46) ∨ (isP (txc tl tx s) = true ∧ isP (txc tl tx (s + 1)) = true ∧ isP (txc tl tx (s + 1 + 1)) = true) ∨ (¬ (s < tl ∧ tx s = 46) ∧ isP (txc tl tx s) = false) ∨ (isP (txc tl tx s) = true ∧ isP (txc tl tx (s + 1)) = false) ∨ (isP (txc tl tx s) = true ∧ isP (txc tl tx (s + 1)) = true ∧ isP (txc tl tx (s + 1 + 1)) = false) := by
  by_cases h : s < tl ∧ tx s = 46
  · exact .inl h
  · cases h0 : isP (txc tl tx s) <;> cases h1 : isP (txc tl tx (s + 1)) <;> cases h2 : isP (txc tl tx (s + 1 + 1)) <;> simp [h]
/-- the fault of a text from place i on: px colours read, pt parts of the next one -/
def ff (tl : Nat) (tx : Nat → Nat) : Nat → Nat → Nat → Nat → Int32
  | 0, _, px, pt => if px = 0 ∨ 0 < pt then nI tl else -6
  | f + 1, i, px, pt => if px = 8 then nI i else if isP (tx i) = true then (if pt = 2 then ff tl tx f (i + 1) (px + 1) 0 else ff tl tx f (i + 1) px (pt + 1)) else if tx i = 46 ∧ pt = 0 then ff tl tx f (i + 1) (px + 1) 0 else nI i
theorem ff_s {tl : Nat} {tx : Nat → Nat} {i px pt : Nat} (h : i < tl) : ff tl tx (tl - i) i px pt = if px = 8 then nI i else if isP (tx i) = true then (if pt = 2 then ff tl tx (tl - (i + 1)) (i + 1) (px + 1) 0 else ff tl tx (tl - (i + 1)) (i + 1) px (pt + 1)) else if tx i = 46 ∧ pt = 0 then ff tl tx (tl - (i + 1)) (i + 1) (px + 1) 0 else nI i := by
  rw [show tl - i = (tl - (i + 1)) + 1 by omega, ff]
theorem ff_e {tl : Nat} {tx : Nat → Nat} {i px pt : Nat} (h : ¬ i < tl) : ff tl tx (tl - i) i px pt = if px = 0 ∨ 0 < pt then nI tl else -6 := by
  rw [show tl - i = 0 by omega, ff]
abbrev fau (tl : Nat) (tx : Nat → Nat) : Int32 := ff tl tx (tl - 0) 0 0 0
section
variable {tl : Nat} {tx : Nat → Nat} {s px : Nat}
theorem ff_dot (h8 : px ≠ 8) (h : s < tl ∧ tx s = 46) : ff tl tx (tl - s) s px 0 = ff tl tx (tl - (s + 1)) (s + 1) (px + 1) 0 := by
  rw [ff_s h.1, if_neg h8, if_neg (by rw [h.2]; decide), if_pos ⟨h.2, rfl⟩]
theorem ff_p {pt : Nat} (h8 : px ≠ 8) (h : isP (txc tl tx s) = true) (hp : pt < 2) : ff tl tx (tl - s) s px pt = ff tl tx (tl - (s + 1)) (s + 1) px (pt + 1) := by
  have e := isP_in h
  rw [txc_i e] at h
  rw [ff_s e, if_neg h8, if_pos h, if_neg (by omega)]
theorem ff_p2 (h8 : px ≠ 8) (h : isP (txc tl tx s) = true) : ff tl tx (tl - s) s px 2 = ff tl tx (tl - (s + 1)) (s + 1) (px + 1) 0 := by
  have e := isP_in h
  rw [txc_i e] at h
  rw [ff_s e, if_neg h8, if_pos h, if_pos rfl]
theorem ff_no {pt : Nat} (h8 : px ≠ 8) (h : isP (txc tl tx s) = false) (hs : s ≤ tl) (h0 : 0 < pt ∨ ¬ (s < tl ∧ tx s = 46) ∧ (s < tl ∨ px = 0)) : ff tl tx (tl - s) s px pt = nI s := by
  by_cases e : s < tl
  · rw [txc_i e] at h
    rw [ff_s e, if_neg h8, if_neg (by rw [h]; decide), if_neg (fun z => by rcases h0 with h0 | h0; omega; exact h0.1 ⟨e, z.1⟩)]
  · rw [ff_e e, if_pos (by rcases h0 with h0 | h0; exact .inr h0; exact .inl (by omega)), show s = tl by omega]
end
/-- where the colour j starts; a colour's characters; its value -/
def stp (tx : Nat → Nat) : Nat → Nat
  | 0 => 0
  | j + 1 => if tx (stp tx j) = 46 then stp tx j + 1 else stp tx j + 3
def okC (tl : Nat) (tx : Nat → Nat) (s : Nat) : Prop := (s < tl ∧ tx s = 46) ∨ (isP (txc tl tx s) = true ∧ isP (txc tl tx (s + 1)) = true ∧ isP (txc tl tx (s + 1 + 1)) = true)
def cvI (tl : Nat) (tx : Nat → Nat) (s : Nat) : Int32 := if tx s = 46 then -1 else nI (cv3 tl tx s)
theorem stp_d {tl : Nat} {tx : Nat → Nat} {j : Nat} (h : stp tx j < tl ∧ tx (stp tx j) = 46) : stp tx (j + 1) = stp tx j + 1 := by rw [stp, if_pos h.2]
theorem notdot {tl : Nat} {tx : Nat → Nat} {s : Nat} (h : isP (txc tl tx s) = true) : ¬ tx s = 46 := fun e => absurd ((dotP e).symm.trans h) (by decide)
theorem stp_3 {tl : Nat} {tx : Nat → Nat} {j : Nat} (h : isP (txc tl tx (stp tx j)) = true) : stp tx (j + 1) = stp tx j + 1 + 1 + 1 := by rw [stp, if_neg (notdot h)]
/-- rd colours are read well, cl their values, sp the place behind them -/
def Rd (tl : Nat) (tx : Nat → Nat) (rd sp : Nat) (cl : Nat → Int32) : Prop := sp = stp tx rd ∧ (∀ j, j < rd → okC tl tx (stp tx j)) ∧ (∀ j, j < rd → cl j = cvI tl tx (stp tx j)) ∧ sp ≤ tl ∧ rd ≤ 8 ∧ fau tl tx = ff tl tx (tl - sp) sp rd 0
section
variable {tl : Nat} {tx : Nat → Nat} {rd s_ : Nat} {c_ : Nat → Int32}
theorem Rd.se (h : Rd tl tx rd s_ c_) : s_ = stp tx rd := h.1
theorem Rd.ok (h : Rd tl tx rd s_ c_) : ∀ j, j < rd → okC tl tx (stp tx j) := h.2.1
theorem Rd.cl (h : Rd tl tx rd s_ c_) : ∀ j, j < rd → c_ j = cvI tl tx (stp tx j) := h.2.2.1
theorem Rd.le (h : Rd tl tx rd s_ c_) : s_ ≤ tl := h.2.2.2.1
theorem Rd.r8 (h : Rd tl tx rd s_ c_) : rd ≤ 8 := h.2.2.2.2.1
theorem Rd.fe (h : Rd tl tx rd s_ c_) : fau tl tx = ff tl tx (tl - s_) s_ rd 0 := h.2.2.2.2.2
end
theorem Rd.zero (tl : Nat) (tx : Nat → Nat) (cl : Nat → Int32) : Rd tl tx 0 0 cl := ⟨rfl, fun j h => absurd h (by omega), fun j h => absurd h (by omega), by omega, by decide, rfl⟩
theorem Rd.dot {tl : Nat} {tx : Nat → Nat} {rd sp : Nat} {cl : Nat → Int32} (h : Rd tl tx rd sp cl) (h8 : rd < 8) (hd : sp < tl ∧ tx sp = 46) : Rd tl tx (rd + 1) (sp + 1) (upd cl rd (-1)) := by
  have e := h.se
  refine ⟨?_, fun j hj => ?_, fun j hj => ?_, hd.1, h8, h.fe.trans (ff_dot (by omega) hd)⟩
  · rw [e] at hd ⊢; exact (stp_d hd).symm
  · by_cases c : j < rd
    · exact h.ok j c
    · rw [show j = rd by omega, ← e]; exact .inl hd
  · by_cases c : j < rd
    · rw [← h.cl j c]; exact if_neg (by omega)
    · rw [show j = rd by omega, ← e]
      exact (if_pos rfl).trans (if_pos hd.2).symm
theorem Rd.three {tl : Nat} {tx : Nat → Nat} {rd sp : Nat} {cl : Nat → Int32} (h : Rd tl tx rd sp cl) (h8 : rd < 8) (h0 : isP (txc tl tx sp) = true) (h1 : isP (txc tl tx (sp + 1)) = true) (h2 : isP (txc tl tx (sp + 1 + 1)) = true) : Rd tl tx (rd + 1) (sp + 1 + 1 + 1) (upd cl rd (nI (cv3 tl tx sp))) := by
  have e := h.se
  have h8 : rd ≠ 8 := by omega
  refine ⟨?_, fun j hj => ?_, fun j hj => ?_, isP_in h2, by have := h.r8; omega, h.fe.trans ((ff_p h8 h0 (by decide)).trans ((ff_p h8 h1 (by decide)).trans (ff_p2 h8 h2)))⟩
  · rw [e] at h0 ⊢; exact (stp_3 h0).symm
  · by_cases c : j < rd
    · exact h.ok j c
    · rw [show j = rd by omega, ← e]; exact .inr ⟨h0, h1, h2⟩
  · by_cases c : j < rd
    · rw [← h.cl j c]; exact if_neg (by omega)
    · rw [show j = rd by omega, ← e]
      exact (if_pos rfl).trans (if_neg (notdot h0)).symm
/-- a text without a fault: n colours -/
def Gd (tl : Nat) (tx : Nat → Nat) (n : Nat) : Prop := n ≤ 8 ∧ stp tx n = tl ∧ ∀ j, j < n → okC tl tx (stp tx j)
abbrev FG : Type := Bool × Nat × Nat × (Nat → Int32)
def Fi (tl : Nat) (tx : Nat → Nat) (g : FG) : Prop := Rd tl tx g.2.2.1 g.2.1 g.2.2.2 ∧ (g.1 = true → g.2.2.1 < 8 ∧ (g.2.1 < tl ∨ g.2.2.1 = 0)) ∧ (g.1 = false → 0 < g.2.2.1 ∧ (g.2.1 = tl ∨ g.2.2.1 = 8))
theorem Fi.nx {tl : Nat} {tx : Nat → Nat} {rd sp : Nat} {cl : Nat → Int32} (h : Rd tl tx (rd + 1) sp cl) : (sp < tl → rd + 1 < 8 → Fi tl tx (true, sp, rd + 1, cl)) ∧ ((tl ≤ sp ∨ 8 ≤ rd + 1) → Fi tl tx (false, sp, rd + 1, cl)) := by
  refine ⟨fun h1 h2 => ⟨h, fun _ => ⟨h2, .inl h1⟩, fun e => Bool.noConfusion (show true = false from e)⟩, fun h1 => ⟨h, fun e => Bool.noConfusion (show false = true from e), fun _ => ⟨Nat.succ_pos _, ?_⟩⟩⟩
  rcases h1 with h1 | h1
  · exact .inl (Nat.le_antisymm h.le h1)
  · exact .inr (Nat.le_antisymm h.r8 h1)
def Fz (tl : Nat) (tx : Nat → Nat) (g : FG) : Prop := fau tl tx = -6 → Gd tl tx g.2.2.1 ∧ ∀ j, j < g.2.2.1 → g.2.2.2 j = cvI tl tx (stp tx j)
theorem nI_6 {n : Nat} (h : n ≤ 48) : ¬ nI n = -6 := by
  rw [i_eq, nI_toInt (by omega), show (-6 : Int32).toInt = -6 from rfl]
  omega
theorem Fz.bad {tl : Nat} {tx : Nat → Nat} {g : FG} {n : Nat} (h : fau tl tx = nI n) (hn : n ≤ 48) : Fz tl tx g := fun e => absurd (h.symm.trans e) (nI_6 hn)
theorem Fz.good {tl : Nat} {tx : Nat → Nat} {g : FG} (h : Rd tl tx g.2.2.1 g.2.1 g.2.2.2) (e : g.2.1 = tl) : Fz tl tx g := fun _ => ⟨⟨h.r8, h.se.symm.trans e, h.ok⟩, h.cl⟩
theorem Fi.e1 {tl : Nat} {tx : Nat → Nat} {g : FG} (h : Fi tl tx g) (f : g.1 = false) (e : g.2.1 = tl) : fau tl tx = -6 := by
  have h0 := (h.2.2 f).1
  rw [h.1.fe, ff_e (by omega), if_neg (by omega)]
theorem Fi.e2 {tl : Nat} {tx : Nat → Nat} {g : FG} (h : Fi tl tx g) (f : g.1 = false) (e : g.2.1 ≠ tl) : fau tl tx = nI g.2.1 := by
  have h0 := (h.2.2 f).2
  have h1 := h.1.le
  rw [h.1.fe, ff_s (by omega), if_pos (by omega)]
theorem Fi.n0 {tl : Nat} {tx : Nat → Nat} {g : FG} (h : Fi tl tx g) (f : g.1 = true) (hd : ¬ (g.2.1 < tl ∧ tx g.2.1 = 46)) (hp : isP (txc tl tx g.2.1) = false) : fau tl tx = nI g.2.1 :=
  h.1.fe.trans (ff_no (by have := (h.2.1 f).1; omega) hp h.1.le (.inr ⟨hd, (h.2.1 f).2⟩))
theorem Fi.n1 {tl : Nat} {tx : Nat → Nat} {g : FG} (h : Fi tl tx g) (f : g.1 = true) (h0 : isP (txc tl tx g.2.1) = true) (hp : isP (txc tl tx (g.2.1 + 1)) = false) : fau tl tx = nI (g.2.1 + 1) :=
  have h8 : g.2.2.1 ≠ 8 := by have := (h.2.1 f).1; omega
  h.1.fe.trans ((ff_p h8 h0 (by decide)).trans (ff_no h8 hp (isP_in h0) (.inl (by decide))))
theorem Fi.n2 {tl : Nat} {tx : Nat → Nat} {g : FG} (h : Fi tl tx g) (f : g.1 = true) (h0 : isP (txc tl tx g.2.1) = true) (h1 : isP (txc tl tx (g.2.1 + 1)) = true) (hp : isP (txc tl tx (g.2.1 + 1 + 1)) = false) : fau tl tx = nI (g.2.1 + 1 + 1) :=
  have h8 : g.2.2.1 ≠ 8 := by have := (h.2.1 f).1; omega
  h.1.fe.trans ((ff_p h8 h0 (by decide)).trans ((ff_p h8 h1 (by decide)).trans (ff_no h8 hp (isP_in h1) (.inl (by decide)))))
theorem cv3_lt {tl : Nat} {tx : Nat → Nat} {s : Nat} (h : isP (txc tl tx s) = true ∧ isP (txc tl tx (s + 1)) = true ∧ isP (txc tl tx (s + 1 + 1)) = true) : cv3 tl tx s < 4096 := by
  have h0 := pv_lt h.1
  have h1 := pv_lt h.2.1
  have h2 := pv_lt h.2.2
  unfold cv3
  omega
theorem okC.n {tl : Nat} {tx : Nat → Nat} {s : Nat} (h : okC tl tx s) (hd : ¬ tx s = 46) : isP (txc tl tx s) = true ∧ isP (txc tl tx (s + 1)) = true ∧ isP (txc tl tx (s + 1 + 1)) = true := by
  rcases h with h | h
  · exact absurd h.2 hd
  · exact h
theorem cvI_lt {tl : Nat} {tx : Nat → Nat} {s : Nat} (h : okC tl tx s) (hc : cvI tl tx s < 0) : tx s = 46 := by
  by_cases hd : tx s = 46
  · exact hd
  · have e := cv3_lt (h.n hd)
    unfold cvI at hc
    rw [if_neg hd, i_lt, nI_toInt (by omega), i_0] at hc
    omega
theorem cvI_ge {tl : Nat} {tx : Nat → Nat} {s : Nat} (hc : ¬ cvI tl tx s < 0) : ¬ tx s = 46 := by
  intro hd
  unfold cvI at hc
  rw [if_pos hd] at hc
  exact hc (by decide)
theorem cvI_n {tl : Nat} {tx : Nat → Nat} {s : Nat} (hd : ¬ tx s = 46) : cvI tl tx s = nI (cv3 tl tx s) := if_neg hd
/-- a picture f painted from place h on by the first i colours of the text, and how many were painted -/
def rdF (tl : Nat) (tx : Nat → Nat) (h : Nat) (f : Nat → Nat) : Nat → Nat → Nat
  | 0 => f
  | i + 1 => if tx (stp tx i) = 46 then rdF tl tx h f i else upN (rdF tl tx h f i) (h + i) (cv3 tl tx (stp tx i))
def rdC (tx : Nat → Nat) : Nat → Nat
  | 0 => 0
  | i + 1 => if tx (stp tx i) = 46 then rdC tx i else rdC tx i + 1
theorem rdF_d {tl : Nat} {tx : Nat → Nat} {h i : Nat} {f : Nat → Nat} (e : tx (stp tx i) = 46) : rdF tl tx h f (i + 1) = rdF tl tx h f i := by rw [rdF, if_pos e]
theorem rdF_n {tl : Nat} {tx : Nat → Nat} {h i : Nat} {f : Nat → Nat} (e : ¬ tx (stp tx i) = 46) : rdF tl tx h f (i + 1) = upN (rdF tl tx h f i) (h + i) (cv3 tl tx (stp tx i)) := by rw [rdF, if_neg e]
theorem rdC_d {tx : Nat → Nat} {i : Nat} (e : tx (stp tx i) = 46) : rdC tx i = rdC tx (i + 1) := by rw [rdC, if_pos e]
theorem rdC_n {tx : Nat → Nat} {i : Nat} (e : ¬ tx (stp tx i) = 46) : rdC tx i + 1 = rdC tx (i + 1) := by rw [rdC, if_neg e]
theorem stp_lt (tx : Nat → Nat) (j : Nat) : stp tx j < stp tx (j + 1) := by
  rw [stp]
  split <;> omega
theorem stp_mono (tx : Nat → Nat) (j : Nat) : ∀ d, stp tx j + d ≤ stp tx (j + d)
  | 0 => Nat.le_refl _
  | d + 1 => by
    have h1 := stp_mono tx j d
    have h2 := stp_lt tx (j + d)
    show stp tx j + (d + 1) ≤ stp tx (j + d + 1)
    omega
theorem Gd.uniq {tl : Nat} {tx : Nat → Nat} {n m : Nat} (h1 : Gd tl tx n) (h2 : Gd tl tx m) : n = m := by
  have e1 := h1.2.1
  have e2 := h2.2.1
  rcases Nat.lt_trichotomy n m with c | c | c
  · have := stp_mono tx n (m - n)
    rw [show n + (m - n) = m by omega] at this
    omega
  · exact c
  · have := stp_mono tx m (n - m)
    rw [show m + (n - m) = n by omega] at this
    omega
/-- a text without a fault is made of colours -/
theorem Gd.of {tl : Nat} {tx : Nat → Nat} (h48 : tl ≤ 48) (h : fau tl tx = -6) : ∃ n, Gd tl tx n := by
  have key : ∀ q rd sp cl, tl - sp < q → Rd tl tx rd sp cl → ∃ n, Gd tl tx n := by
    intro q
    induction q with
    | zero => intro rd sp cl hq; exact absurd hq (by omega)
    | succ q ih =>
      intro rd sp cl hq hr
      have hle := hr.le
      by_cases e : sp < tl
      · have e8 : ¬ rd = 8 := by
          intro e8
          have z := hr.fe
          rw [ff_s e, if_pos e8, h] at z
          exact nI_6 (by omega) z.symm
        have h8 := hr.r8
        rcases rcC tl tx sp with hd | ⟨h0, h1, h2⟩ | ⟨hd, h0⟩ | ⟨h0, h1⟩ | ⟨h0, h1, h2⟩
        · exact ih _ _ _ (by omega) (hr.dot (by omega) hd)
        · exact ih _ _ _ (by omega) (hr.three (by omega) h0 h1 h2)
        · exact absurd (h.symm.trans (hr.fe.trans (ff_no e8 h0 hle (.inr ⟨hd, .inl e⟩)))).symm (nI_6 (by omega))
        · exact absurd (h.symm.trans (hr.fe.trans ((ff_p e8 h0 (by decide)).trans (ff_no e8 h1 (isP_in h0) (.inl (by decide)))))).symm (nI_6 (by have := isP_in h0; omega))
        · exact absurd (h.symm.trans (hr.fe.trans ((ff_p e8 h0 (by decide)).trans ((ff_p e8 h1 (by decide)).trans (ff_no e8 h2 (isP_in h1) (.inl (by decide))))))).symm (nI_6 (by have := isP_in h1; omega))
      · exact ⟨rd, hr.r8, hr.se.symm.trans (by omega), hr.ok⟩
  exact key (tl + 1) 0 0 (fun _ => 0) (by omega) (Rd.zero tl tx _)
