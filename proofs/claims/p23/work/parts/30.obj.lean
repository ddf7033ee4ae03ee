/-! ONE OBJECT of the class, whole -/
abbrev SLT : Type := Option ((Nat → Nat) × SC)
def sltA : SLT → Option Nat
  | none => none
  | some p => some (p.1 0)
def sltW (G : VC) : SLT → va_W
  | none => []
  | some p => scW G p.1 p.2
abbrev OJ : Type := SC × ((Nat → Nat → Nat) × Nat) × (Nat → Nat → Nat) × Nat
abbrev OQ : Type := SC × (Nat → SC) × (Nat × Nat) × (SLT × SLT) × (Nat → Nat) × Nat
abbrev oX (q : OQ) : SC := q.1
abbrev oR (q : OQ) : Nat → SC := q.2.1
abbrev oO (q : OQ) : Nat := q.2.2.1.1
abbrev oN (q : OQ) : Nat := q.2.2.1.2
abbrev oA (q : OQ) : SLT := q.2.2.2.1.1
abbrev oB (q : OQ) : SLT := q.2.2.2.1.2
abbrev oT (q : OQ) : Nat → Nat := q.2.2.2.2.1
abbrev oL (q : OQ) : Nat := q.2.2.2.2.2
abbrev obL (G : VC) (ad ha : AD) (q : OQ) (j : OJ) : List va_W := [gsW G ad (sltA (oA q)) (sltA (oB q)), scW G (ad 1) (oX q), scW G (ad 2) j.1, vwW G (ad 3) (j.2.1.1 0) (j.2.1.1 1) (j.2.1.1 2) (j.2.1.1 3) (j.2.1.1 4) (j.2.1.1 5) (j.2.1.1 6) (j.2.1.1 7) (j.2.1.1 8) j.2.1.2, vwW G (ad 4) (j.2.2.1 0) (j.2.2.1 1) (j.2.2.1 2) (j.2.2.1 3) (j.2.2.1 4) (j.2.2.1 5) (j.2.2.1 6) (j.2.2.1 7) (j.2.2.1 8) j.2.2.2, pdW G (ad 5) (oT q) (oL q), hiW G (ad 6) ha (oO q) (oN q), scW G (ha 0) (oR q 0), scW G (ha 1) (oR q 1), scW G (ha 2) (oR q 2), scW G (ha 3) (oR q 3), scW G (ha 4) (oR q 4), scW G (ha 5) (oR q 5)]
abbrev slL (G : VC) (q : OQ) : List va_W := [sltW G (oA q), sltW G (oB q)]
abbrev obW (G : VC) (ad ha : AD) (q : OQ) (j : OJ) : va_W := bl (obL G ad ha q j)
abbrev slB (G : VC) (q : OQ) : va_W := bl (slL G q)
theorem bl2 (a b : List va_W) : bl [bl a, bl b] = bl (a ++ b) := by simp
theorem sln (G : VC) (a : List va_W) (b : va_W) : bl (a ++ [[], b]) = bl (a ++ [b]) := by simp
theorem sln2 (G : VC) (a : List va_W) (b : va_W) : bl (a ++ [b, []]) = bl (a ++ [b]) := by simp
theorem Ctr.wide {y : MethodName} {wy : List Cond} {rm R : Room} {G : VC} {av : List Value} {wc : va_W} {Post : Option Value → va_W → Prop} (hC : Ctr y wy rm G av wc Post) (hf : rm.frames ≤ R.frames) (hl : rm.locals ≤ R.locals) (hc : rm.cells ≤ R.cells) (hs : rm.slots ≤ R.slots) : Ctr y wy R G av wc Post := by
  intro l sz p e h1 h2 h3 s m args below hfr hap hPc hK
  obtain ⟨a1, a2, a3, a4, a5, a6, a7, a8⟩ := (Spec.appliesLoose_iff hfr).mp hap
  have a7' : s.hasRoom e.platform rm = true := by
    have b7 : s.hasRoom e.platform R = true := a7
    simp only [State.hasRoom, Bool.and_eq_true, decide_eq_true_eq] at b7 ⊢
    obtain ⟨⟨⟨⟨c1, c2, c3, c4, c5, c6⟩, c7⟩, c8⟩, c9⟩ := b7
    exact ⟨⟨⟨⟨by omega, by omega, by omega, by omega, by omega, c6⟩, by omega⟩, by omega⟩, c9⟩
  obtain ⟨n, o, b1, b2, b3, hq, L, b4, b5⟩ := hC l sz p e h1 h2 h3 s m args below hfr ((Spec.appliesLoose_iff hfr).mpr ⟨a1, a2, a3, a4, a5, a6, a7', a8⟩) hPc hK
  exact ⟨n, o, b1, b2, b3, hq, L, ⟨b4.1, b4.2.1, b4.2.2.mono hc hs⟩, b5⟩
theorem Ctr.pw {y : MethodName} {wy : List Cond} {rm R : Room} {G : VC} {av : List Value} {wc wr W : va_W} {Post Post2 : Option Value → va_W → Prop} (hC : Ctr y wy rm G av wc Post) (hf : rm.frames ≤ R.frames) (hl : rm.locals ≤ R.locals) (hc : rm.cells ≤ R.cells) (hs : rm.slots ≤ R.slots) (hp : W.Perm (wc ++ wr)) (hpost : ∀ v u, Post v u → ∃ u2, (u ++ wr).Perm u2 ∧ Post2 v u2) : Ctr y wy R G av W Post2 :=
  (hC.pack hp hpost).wide hf hl hc hs
/-- what holds of an object at each time -/
def slI (S : SLT) : Prop := ∀ p, S = some p → SInv p.2
def OBI (q : OQ) : Prop := SInv (oX q) ∧ (∀ j, j < 6 → SInv (oR q j)) ∧ oO q < 6 ∧ oN q ≤ 6 ∧ slI (oA q) ∧ slI (oB q) ∧ TI (oL q) (oT q)
theorem OBI.x {q : OQ} (h : OBI q) : SInv (oX q) := h.1
theorem OBI.r {q : OQ} (h : OBI q) : ∀ j, j < 6 → SInv (oR q j) := h.2.1
theorem OBI.o {q : OQ} (h : OBI q) : oO q < 6 := h.2.2.1
theorem OBI.n {q : OQ} (h : OBI q) : oN q ≤ 6 := h.2.2.2.1
theorem OBI.a {q : OQ} (h : OBI q) : slI (oA q) := h.2.2.2.2.1
theorem OBI.b {q : OQ} (h : OBI q) : slI (oB q) := h.2.2.2.2.2.1
theorem OBI.t {q : OQ} (h : OBI q) : TI (oL q) (oT q) := h.2.2.2.2.2.2
/-- a change -/
abbrev qC (q : OQ) (x2 : SC) : OQ := (x2, rgu (oR q) ((oO q + oN q) % 6) (oX q), (onN (oO q) (oN q), hlN (oN q)), q.2.2.2)
theorem OBI.ch {q : OQ} (h : OBI q) {x2 : SC} (hx : SInv x2) : OBI (qC q x2) := ⟨hx, RH.inv h.x h.r, onN_lt h.o, hlN_le h.n, h.a, h.b, h.t⟩
def qSet (q : OQ) (k v : Nat) : OQ := if ordN (oX q) k v = true then qC q (upN (scS (oX q)) k v, (oX q).2) else q
def aSet (q : OQ) (k v : Nat) : Int32 := if ordN (oX q) k v = true then nI (scS (oX q) k) else -5
abbrev pic (b : Bool) (x : SC) : Nat → Nat := match b with | true => scF x | false => scB x
abbrev pnt (b : Bool) (x : SC) (f : Nat → Nat) : SC := match b with | true => (scS x, f, x.2.2) | false => (scS x, scF x, f, x.2.2.2)
def qMrk (q : OQ) (p : Nat) (b : Bool) : OQ := if scG (oX q) p = bN b then q else qC q (scS (oX q), scF (oX q), scB (oX q), upN (scG (oX q)) p (bN b), scC (oX q))
def aMrk (q : OQ) (p : Nat) (b : Bool) : Int32 := if scG (oX q) p = bN b then -5 else nI (sumN 48 (upN (scG (oX q)) p (bN b)))
noncomputable abbrev qKep (q : OQ) : OQ := qC q (scS (oX q), cmpF (oX q), scB (oX q), zN, scC (oX q))
noncomputable def aIf (x : SC) (k v : Nat) : Int32 := if ordN x k v = true then nI (sumN 48 (fun j => bN (!decide (cmpF x j = cmpF (upN (scS x) k v, x.2) j)))) else -5
abbrev qPd (q : OQ) (tx : Nat → Nat) (tl : Nat) : OQ := (q.1, q.2.1, q.2.2.1, q.2.2.2.1, tx, tl)
abbrev qPut (q : OQ) (c : Nat) : OQ := qPd q (ins (oL q) 1 (fun _ => c) (oT q)) (oL q + 1)
abbrev qRd (q : OQ) (b : Bool) (w n : Nat) : OQ := qPd (qC q (pnt b (oX q) (rdF (oL q) (oT q) (8 * w) (pic b (oX q)) n))) (oT q) 0
def qUnd (q : OQ) : OQ := if oN q = 0 then q else (oR q ((oO q + oN q - 1) % 6), oR q, (oO q, oN q - 1), q.2.2.2)
def aUnd (q : OQ) : Int32 := if oN q = 0 then -5 else nI (oN q - 1)
abbrev slt (q : OQ) (s : Nat) : SLT := if s = 0 then oA q else oB q
def sAd (S : SLT) (b : Nat → Nat) : Nat → Nat := match S with | none => b | some p => p.1
def qSav (q : OQ) (s : Nat) (b : Nat → Nat) : OQ := if s = 0 then (q.1, q.2.1, q.2.2.1, (some (sAd (oA q) b, oX q), oB q), q.2.2.2.2) else (q.1, q.2.1, q.2.2.1, (oA q, some (sAd (oB q) b, oX q)), q.2.2.2.2)
def qRes (q : OQ) (s : Nat) : OQ := match slt q s with | none => q | some p => qC q p.2
def aRes (q : OQ) (s : Nat) : Int32 := match slt q s with | none => -5 | some p => nI (sumN 48 (scG p.2))
theorem chN1 {c : Nat} (h1 : 33 ≤ c) (h2 : c ≤ 126) : chN c = 1 := by
  have hc : cdN c 0 = c := by unfold cdN; rw [Nat.pow_zero, Nat.div_one]; omega
  show chS c (7 + 1) 0 = 1
  rw [chS_t (by rw [hc]; exact decide_eq_true ⟨h1, h2⟩)]
  exact chS_0 (Nat.div_eq_of_lt (by rw [Nat.pow_one]; omega))
theorem putF1 {c : Nat} (h1 : 33 ≤ c) (h2 : c ≤ 126) (g : Nat → Nat) (h : Nat) : ins h 1 (putF c) g = ins h 1 (fun _ => c) g := by
  funext j
  unfold ins
  by_cases e : h ≤ j ∧ j < h + 1
  · rw [if_pos e, if_pos e]
    unfold putF
    rw [chN1 h1 h2, show 1 - 1 - (j - h) = 0 by omega]
    unfold cdN
    rw [Nat.pow_zero, Nat.div_one]
    show c % 256 = c
    omega
  · rw [if_neg e, if_neg e]
