/-! rows of V over small natural numbers; words of the pictures of state -/
abbrev nA (f : Nat → Nat) : Nat → Int32 := fun j => nI (f j)
def bN (b : Bool) : Nat := if b then 1 else 0
theorem bN_le (b : Bool) : bN b ≤ 1 := by cases b <;> decide
theorem bN_t {b : Bool} (h : b = true) : bN b = 1 := by rw [h]; rfl
theorem bN_f {b : Bool} (h : b = false) : bN b = 0 := by rw [h]; rfl
theorem nrI (x : Int32) : narrow .int (.int x) = .int x := rfl
theorem nrB (b : Bool) : narrow .boolean (.int (nI (bN b))) = .int (nI (bN b)) := by cases b <;> rfl
theorem nrb (n : Nat) (h : n ≤ 1) : narrow .boolean (.int (nI n)) = .int (nI n) := by
  rcases (show n = 0 ∨ n = 1 by omega) with rfl | rfl <;> rfl
theorem vnb (n : Nat) (h : n ≤ 1) : vp_nar .boolean (nI n) = nI n := by
  rcases (show n = 0 ∨ n = 1 by omega) with rfl | rfl <;> rfl
theorem ftb (n : Nat) (h : n ≤ 1) : fits .boolean (.int (nI n)) = true := by
  rcases (show n = 0 ∨ n = 1 by omega) with rfl | rfl <;> rfl
/-- a number from 0 up to n, n left out -/
def okI (n : Nat) (x : Int32) : Bool := decide (0 ≤ x.toInt ∧ x.toInt < n)
def nN (x : Int32) : Nat := x.toNatClampNeg
theorem nN_nI {n : Nat} (h : n < 2 ^ 31) : nN (nI n) = n := nI_clamp h
theorem okI_t {n : Nat} {x : Int32} (h : okI n x = true) (hn : n ≤ 2 ^ 31) : ∃ j : Nat, j < n ∧ x = nI j := by
  simp only [okI, decide_eq_true_eq] at h
  refine ⟨x.toInt.toNat, by omega, ?_⟩
  apply Int32.toInt_inj.mp
  rw [nI_toInt (by omega)]
  omega
theorem okI_n {n j : Nat} (h : j < n) (hj : j < 2 ^ 31) : okI n (nI j) = true := by
  simp only [okI, decide_eq_true_eq, nI_toInt hj]
  omega
theorem okI_nn {n j : Nat} (h : n ≤ j) (hj : j < 2 ^ 31) : okI n (nI j) = false := by
  simp only [okI, decide_eq_false_iff_not, nI_toInt hj]
  omega
theorem i_lt (a b : Int32) : a < b ↔ a.toInt < b.toInt := Int32.lt_iff_toInt_lt
theorem i_le (a b : Int32) : a ≤ b ↔ a.toInt ≤ b.toInt := Int32.le_iff_toInt_le
theorem i_eq (a b : Int32) : a = b ↔ a.toInt = b.toInt := Int32.toInt_inj.symm
theorem i_0 : (0 : Int32).toInt = 0 := rfl
theorem i_1 : (1 : Int32).toInt = 1 := rfl
theorem okI_lt {n : Nat} {x : Int32} (h : x < 0) : okI n x = false := by
  rw [i_lt, i_0] at h
  simp only [okI, decide_eq_false_iff_not]
  omega
theorem okI_ge {n : Nat} {x : Int32} (h : nI n ≤ x) (hn : n < 2 ^ 31) : okI n x = false := by
  rw [i_le, nI_toInt hn] at h
  simp only [okI, decide_eq_false_iff_not]
  omega
theorem okI_of {n : Nat} {x : Int32} (h1 : ¬ x < 0) (h2 : ¬ nI n ≤ x) (hn : n < 2 ^ 31) : okI n x = true := by
  rw [i_lt, i_0] at h1
  rw [i_le, nI_toInt hn] at h2
  simp only [okI, decide_eq_true_eq]
  omega
theorem okI_m {n : Nat} {x : Int32} (h : x = -1) : okI n x = false := by
  subst h
  simp only [okI, decide_eq_false_iff_not]
  have : (-1 : Int32).toInt = -1 := rfl
  omega
/-- the first i by a, the others by b -/
def mx (i : Nat) (a b : Nat → Int32) : Nat → Int32 := fun j => if j < i then a j else b j
theorem mx_0 {a b : Nat → Int32} (j : Nat) : mx 0 a b j = b j := by simp [mx]
theorem mx_n {n : Nat} {a b : Nat → Int32} (j : Nat) (h : j < n) : mx n a b j = a j := by simp [mx, h]
theorem mx_u {i : Nat} {a b : Nat → Int32} {x : Int32} (h : x = a i) (j : Nat) : upd (mx i a b) i x j = mx (i + 1) a b j := by
  unfold mx upd
  by_cases e : j = i
  · subst e; simp [h]
  · rw [if_neg e]
    by_cases e2 : j < i
    · show (if j < i then a j else b j) = _
      rw [if_pos e2, if_pos (by omega)]
    · show (if j < i then a j else b j) = _
      rw [if_neg e2, if_neg (by omega)]
theorem mx_at {i : Nat} {a b : Nat → Int32} : mx (i + 1) a b i = a i := by simp [mx]
def sumN : Nat → (Nat → Nat) → Nat
  | 0, _ => 0
  | n + 1, f => sumN n f + f n
theorem sumN_congr {f g : Nat → Nat} : ∀ {n : Nat}, (∀ j, j < n → f j = g j) → sumN n f = sumN n g
  | 0, _ => rfl
  | n + 1, h => by rw [sumN, sumN, sumN_congr (fun j hj => h j (by omega)), h n (by omega)]
theorem sumN_le {f : Nat → Nat} {b : Nat} : ∀ {n : Nat}, (∀ j, j < n → f j ≤ b) → sumN n f ≤ n * b
  | 0, _ => by simp [sumN]
  | n + 1, h => by
    have h1 := sumN_le (n := n) (fun j hj => h j (by omega))
    have h2 := h n (by omega)
    rw [sumN, Nat.add_mul]
    omega
theorem loopN {P : Nat → Prop} (N : Nat) (h : ∀ i, i ≤ N → (i < N → P (i + 1)) → P i) : ∀ i, i ≤ N → P i := by
  have key : ∀ n i, i ≤ N → N - i = n → P i := by
    intro n
    induction n with
    | zero => exact fun i hi hn => h i hi (fun hlt => absurd hn (by omega))
    | succ n ih => exact fun i hi hn => h i hi (fun hlt => ih (i + 1) (by omega) (by omega))
  exact fun i hi => key _ i hi rfl
/-- a loop by a measure that falls -/
theorem loopM {σ : Type} {P : σ → Prop} (μ : σ → Nat) (h : ∀ s, (∀ s', μ s' < μ s → P s') → P s) : ∀ s, P s := by
  have key : ∀ n s, μ s < n → P s := by
    intro n
    induction n with
    | zero => exact fun s hs => absurd hs (by omega)
    | succ n ih => exact fun s hs => h s (fun s' hs' => ih s' (by omega))
  exact fun s => key _ s (Nat.lt_succ_self _)
theorem s_lN : ∀ n, n < 32 → ((nI n &&& 31).toBitVec.smod 32).toNat = n := by decide
section VN
variable {G : VC} {A : Nat → Prop} {X : VX} {R : Room} {cc : ByteArray} {own : String} {Ts : List Cond} {nL : Nat} {ws : va_W} {kc ks pc : Nat} {lv : List (Option Value)} {st : List Value}
theorem V.iaddN (E : Ev G A X cc own Ts nL) {a b : Nat} (hdg : decode cc pc = .ok (.iadd, 1)) (k : V G A X R ws kc ks (pc + 1) lv (.int (nI (a + b)) :: st)) : V G A X R ws kc ks pc lv (.int (nI b) :: .int (nI a) :: st) := V.iadd E hdg (by rw [nI_add]; exact k)
theorem V.isubN (E : Ev G A X cc own Ts nL) {a b : Nat} (h : b ≤ a) (hdg : decode cc pc = .ok (.isub, 1)) (k : V G A X R ws kc ks (pc + 1) lv (.int (nI (a - b)) :: st)) : V G A X R ws kc ks pc lv (.int (nI b) :: .int (nI a) :: st) := V.isub E hdg (by rw [pk_sub h]; exact k)
theorem V.imulN (E : Ev G A X cc own Ts nL) {a b : Nat} (hdg : decode cc pc = .ok (.imul, 1)) (k : V G A X R ws kc ks (pc + 1) lv (.int (nI (a * b)) :: st)) : V G A X R ws kc ks pc lv (.int (nI b) :: .int (nI a) :: st) := V.imul E hdg (by rw [pk_mul]; exact k)
theorem V.idivN (E : Ev G A X cc own Ts nL) {a b : Nat} (ha : a < 2 ^ 31) (h0 : 0 < b) (hb : b < 2 ^ 31) (hdg : decode cc pc = .ok (.idiv, 1)) (k : V G A X R ws kc ks (pc + 1) lv (.int (nI (a / b)) :: st)) : V G A X R ws kc ks pc lv (.int (nI b) :: .int (nI a) :: st) := V.idiv E hdg (nI_ne0 h0 hb) (by rw [pk_div ha h0 hb]; exact k)
theorem V.iremN (E : Ev G A X cc own Ts nL) {a b : Nat} (ha : a < 2 ^ 31) (h0 : 0 < b) (hb : b < 2 ^ 31) (hdg : decode cc pc = .ok (.irem, 1)) (k : V G A X R ws kc ks (pc + 1) lv (.int (nI (a % b)) :: st)) : V G A X R ws kc ks pc lv (.int (nI b) :: .int (nI a) :: st) := V.irem E hdg (nI_ne0 h0 hb) (by rw [pk_rem ha h0 hb]; exact k)
theorem V.topN {a b : Nat} (h : a = b) (k : V G A X R ws kc ks pc lv (.int (nI b) :: st)) : V G A X R ws kc ks pc lv (.int (nI a) :: st) := by rw [h]; exact k
theorem V.loc {x y : Int32} {lv' : List (Option Value)} (i : Nat) (h : x = y) (hx : lv[i]? = some (some (.int x))) (hlv : lv.set i (some (.int y)) = lv') (k : V G A X R ws kc ks pc lv' st) : V G A X R ws kc ks pc lv st := by
  have e : lv = lv' := by
    rw [← hlv]
    subst h
    apply List.ext_getElem?
    intro j
    by_cases hj : j = i
    · subst hj
      rw [List.getElem?_set_self (List.getElem?_eq_some_iff.mp hx).1, hx]
    · rw [List.getElem?_set_ne (Ne.symm hj)]
  rw [e]; exact k
theorem V.locN {a b : Nat} {lv' : List (Option Value)} (i : Nat) (h : a = b) (hx : lv[i]? = some (some (.int (nI a)))) (hlv : lv.set i (some (.int (nI b))) = lv') (k : V G A X R ws kc ks pc lv' st) : V G A X R ws kc ks pc lv st := V.loc i (congrArg nI h) hx hlv k
theorem V.icmp_eqN (E : Ev G A X cc own Ts nL) {a b : Nat} {off : Int} {tgt : Nat} (ha : a < 2 ^ 31) (hb : b < 2 ^ 31) (hdg : decode cc pc = .ok (.if_icmp .eq off, 3)) (ht : (pc : Int) + off = (tgt : Int)) (kt : a = b → V G A X R ws kc ks tgt lv st) (kf : a ≠ b → V G A X R ws kc ks (pc + 3) lv st) : V G A X R ws kc ks pc lv (.int (nI b) :: .int (nI a) :: st) :=
  V.icmp_eq E hdg ht (fun h => kt ((nI_eq ha hb).mp h)) (fun h => kf (fun e => h ((nI_eq ha hb).mpr e)))
theorem V.icmp_neN (E : Ev G A X cc own Ts nL) {a b : Nat} {off : Int} {tgt : Nat} (ha : a < 2 ^ 31) (hb : b < 2 ^ 31) (hdg : decode cc pc = .ok (.if_icmp .ne off, 3)) (ht : (pc : Int) + off = (tgt : Int)) (kt : a ≠ b → V G A X R ws kc ks tgt lv st) (kf : a = b → V G A X R ws kc ks (pc + 3) lv st) : V G A X R ws kc ks pc lv (.int (nI b) :: .int (nI a) :: st) :=
  V.icmp_ne E hdg ht (fun h => kt (fun e => h ((nI_eq ha hb).mpr e))) (fun h => kf ((nI_eq ha hb).mp h))
theorem V.icmp_ltN (E : Ev G A X cc own Ts nL) {a b : Nat} {off : Int} {tgt : Nat} (ha : a < 2 ^ 31) (hb : b < 2 ^ 31) (hdg : decode cc pc = .ok (.if_icmp .lt off, 3)) (ht : (pc : Int) + off = (tgt : Int)) (kt : a < b → V G A X R ws kc ks tgt lv st) (kf : b ≤ a → V G A X R ws kc ks (pc + 3) lv st) : V G A X R ws kc ks pc lv (.int (nI b) :: .int (nI a) :: st) :=
  V.icmp_lt E hdg ht (fun h => kt ((nI_ltI ha hb).mp h)) (fun h => kf (Nat.not_lt.mp fun e => h ((nI_ltI ha hb).mpr e)))
theorem V.icmp_geN (E : Ev G A X cc own Ts nL) {a b : Nat} {off : Int} {tgt : Nat} (ha : a < 2 ^ 31) (hb : b < 2 ^ 31) (hdg : decode cc pc = .ok (.if_icmp .ge off, 3)) (ht : (pc : Int) + off = (tgt : Int)) (kt : b ≤ a → V G A X R ws kc ks tgt lv st) (kf : a < b → V G A X R ws kc ks (pc + 3) lv st) : V G A X R ws kc ks pc lv (.int (nI b) :: .int (nI a) :: st) :=
  V.icmp_ge E hdg ht (fun h => kt ((nI_leI hb ha).mp h)) (fun h => kf (Nat.not_le.mp fun e => h ((nI_leI hb ha).mpr e)))
theorem V.icmp_gtN (E : Ev G A X cc own Ts nL) {a b : Nat} {off : Int} {tgt : Nat} (ha : a < 2 ^ 31) (hb : b < 2 ^ 31) (hdg : decode cc pc = .ok (.if_icmp .gt off, 3)) (ht : (pc : Int) + off = (tgt : Int)) (kt : b < a → V G A X R ws kc ks tgt lv st) (kf : a ≤ b → V G A X R ws kc ks (pc + 3) lv st) : V G A X R ws kc ks pc lv (.int (nI b) :: .int (nI a) :: st) :=
  V.icmp_gt E hdg ht (fun h => kt ((nI_ltI hb ha).mp h)) (fun h => kf (Nat.not_lt.mp fun e => h ((nI_ltI hb ha).mpr e)))
theorem V.icmp_leN (E : Ev G A X cc own Ts nL) {a b : Nat} {off : Int} {tgt : Nat} (ha : a < 2 ^ 31) (hb : b < 2 ^ 31) (hdg : decode cc pc = .ok (.if_icmp .le off, 3)) (ht : (pc : Int) + off = (tgt : Int)) (kt : a ≤ b → V G A X R ws kc ks tgt lv st) (kf : b < a → V G A X R ws kc ks (pc + 3) lv st) : V G A X R ws kc ks pc lv (.int (nI b) :: .int (nI a) :: st) :=
  V.icmp_le E hdg ht (fun h => kt ((nI_leI ha hb).mp h)) (fun h => kf (Nat.not_le.mp fun e => h ((nI_leI ha hb).mpr e)))
theorem V.if_eqN (E : Ev G A X cc own Ts nL) {a : Nat} {off : Int} {tgt : Nat} (ha : a < 2 ^ 31) (hdg : decode cc pc = .ok (.ifCond .eq off, 3)) (ht : (pc : Int) + off = (tgt : Int)) (kt : a = 0 → V G A X R ws kc ks tgt lv st) (kf : a ≠ 0 → V G A X R ws kc ks (pc + 3) lv st) : V G A X R ws kc ks pc lv (.int (nI a) :: st) :=
  V.if_eq E hdg ht (fun h => kt ((nI_eq ha (by decide)).mp h)) (fun h => kf (fun e => h (by rw [e]; rfl)))
theorem V.if_neN (E : Ev G A X cc own Ts nL) {a : Nat} {off : Int} {tgt : Nat} (ha : a < 2 ^ 31) (hdg : decode cc pc = .ok (.ifCond .ne off, 3)) (ht : (pc : Int) + off = (tgt : Int)) (kt : a ≠ 0 → V G A X R ws kc ks tgt lv st) (kf : a = 0 → V G A X R ws kc ks (pc + 3) lv st) : V G A X R ws kc ks pc lv (.int (nI a) :: st) :=
  V.if_ne E hdg ht (fun h => kt (fun e => h (by rw [e]; rfl))) (fun h => kf ((nI_eq ha (by decide)).mp h))
theorem V.if_leN (E : Ev G A X cc own Ts nL) {a : Nat} {off : Int} {tgt : Nat} (ha : a < 2 ^ 31) (hdg : decode cc pc = .ok (.ifCond .le off, 3)) (ht : (pc : Int) + off = (tgt : Int)) (kt : a = 0 → V G A X R ws kc ks tgt lv st) (kf : 0 < a → V G A X R ws kc ks (pc + 3) lv st) : V G A X R ws kc ks pc lv (.int (nI a) :: st) :=
  V.if_le E hdg ht (fun h => kt (by have := (nI_leI (b := 0) ha (by decide)).mp h; omega)) (fun h => kf (Nat.pos_of_ne_zero fun e => h (by rw [e]; decide)))
theorem V.if_gtN (E : Ev G A X cc own Ts nL) {a : Nat} {off : Int} {tgt : Nat} (ha : a < 2 ^ 31) (hdg : decode cc pc = .ok (.ifCond .gt off, 3)) (ht : (pc : Int) + off = (tgt : Int)) (kt : 0 < a → V G A X R ws kc ks tgt lv st) (kf : a = 0 → V G A X R ws kc ks (pc + 3) lv st) : V G A X R ws kc ks pc lv (.int (nI a) :: st) :=
  V.if_gt E hdg ht (fun h => kt ((nI_ltI (a := 0) (by decide) ha).mp h)) (fun h => kf (Nat.eq_zero_of_not_pos fun e => h ((nI_ltI (a := 0) (by decide) ha).mpr e)))
theorem V.if_ltN (E : Ev G A X cc own Ts nL) {a : Nat} {off : Int} (ha : a < 2 ^ 31) (hdg : decode cc pc = .ok (.ifCond .lt off, 3)) {tgt : Nat} (ht : (pc : Int) + off = (tgt : Int)) (kf : V G A X R ws kc ks (pc + 3) lv st) : V G A X R ws kc ks pc lv (.int (nI a) :: st) :=
  V.if_lt E hdg ht (fun h => absurd h (nI_pos ha)) (fun _ => kf)
theorem V.if_geN (E : Ev G A X cc own Ts nL) {a : Nat} {off : Int} (ha : a < 2 ^ 31) (hdg : decode cc pc = .ok (.ifCond .ge off, 3)) {tgt : Nat} (ht : (pc : Int) + off = (tgt : Int)) (kt : V G A X R ws kc ks tgt lv st) : V G A X R ws kc ks pc lv (.int (nI a) :: st) :=
  V.if_ge E hdg ht (fun _ => kt) (fun h => absurd (nI_pos' ha) h)
theorem V.if_eqB (E : Ev G A X cc own Ts nL) {b : Bool} {off : Int} {tgt : Nat} (hdg : decode cc pc = .ok (.ifCond .eq off, 3)) (ht : (pc : Int) + off = (tgt : Int)) (kt : b = false → V G A X R ws kc ks tgt lv st) (kf : b = true → V G A X R ws kc ks (pc + 3) lv st) : V G A X R ws kc ks pc lv (.int (nI (bN b)) :: st) :=
  V.if_eqN E (Nat.lt_of_le_of_lt (bN_le b) (by decide)) hdg ht (fun h => kt (by cases b; rfl; exact absurd h (by decide))) (fun h => kf (by cases b; exact absurd rfl h; rfl))
theorem V.if_neB (E : Ev G A X cc own Ts nL) {b : Bool} {off : Int} {tgt : Nat} (hdg : decode cc pc = .ok (.ifCond .ne off, 3)) (ht : (pc : Int) + off = (tgt : Int)) (kt : b = true → V G A X R ws kc ks tgt lv st) (kf : b = false → V G A X R ws kc ks (pc + 3) lv st) : V G A X R ws kc ks pc lv (.int (nI (bN b)) :: st) :=
  V.if_neN E (Nat.lt_of_le_of_lt (bN_le b) (by decide)) hdg ht (fun h => kt (by cases b; exact absurd rfl h; rfl)) (fun h => kf (by cases b; rfl; exact absurd h (by decide)))
theorem V.iincN (E : Ev G A X cc own Ts nL) {i a : Nat} {lv' : List (Option Value)} (hdg : decode cc pc = .ok (.iinc i 1, 3)) (hx : lv[i]? = some (some (.int (nI a)))) (hn : i < lv.length) (hok : v_ok i lv = true) (hlv : lv.set i (some (.int (nI (a + 1)))) = lv') (k : V G A X R ws kc ks (pc + 3) lv' st) : V G A X R ws kc ks pc lv st :=
  V.iinc E hdg hx (by rw [show Int32.ofInt 1 = (1 : Int32) from rfl, nI_1]) hn hok hlv k
theorem V.idecN (E : Ev G A X cc own Ts nL) {i a : Nat} {lv' : List (Option Value)} (hdg : decode cc pc = .ok (.iinc i (-1), 3)) (hx : lv[i]? = some (some (.int (nI (a + 1))))) (hn : i < lv.length) (hok : v_ok i lv = true) (hlv : lv.set i (some (.int (nI a))) = lv') (k : V G A X R ws kc ks (pc + 3) lv' st) : V G A X R ws kc ks pc lv st :=
  V.iinc E hdg hx (by rw [show Int32.ofInt (-1) = (-1 : Int32) from rfl, pk_m1]) hn hok hlv k
theorem V.ishrN (E : Ev G A X cc own Ts nL) {a b : Nat} (ha : a < 2 ^ 31) (hb : b < 32) (hdg : decode cc pc = .ok (.ishr, 1)) (k : V G A X R ws kc ks (pc + 1) lv (.int (nI (a / 2 ^ b)) :: st)) : V G A X R ws kc ks pc lv (.int (nI b) :: .int (nI a) :: st) :=
  V.ishr E hdg (by rw [pk_shrN ha _ b (s_lN b hb)]; exact k)
theorem V.ishlN (E : Ev G A X cc own Ts nL) {a b : Nat} (h : a * 2 ^ b < 2 ^ 32) (hb : b < 32) (hdg : decode cc pc = .ok (.ishl, 1)) (k : V G A X R ws kc ks (pc + 1) lv (.int (nI (a * 2 ^ b)) :: st)) : V G A X R ws kc ks pc lv (.int (nI b) :: .int (nI a) :: st) :=
  V.ishl E hdg (by rw [pk_shlN _ b (s_lN b hb) h]; exact k)
theorem V.iand15 (E : Ev G A X cc own Ts nL) {a : Nat} (ha : a < 2 ^ 32) (hdg : decode cc pc = .ok (.iand, 1)) (k : V G A X R ws kc ks (pc + 1) lv (.int (nI (a % 16)) :: st)) : V G A X R ws kc ks pc lv (.int (nI 15) :: .int (nI a) :: st) :=
  V.iand E hdg (by rw [pk_andN ha 4 (by rfl)]; exact k)
end VN
