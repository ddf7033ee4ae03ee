/-! texts: longs as naturals below 2^64; characters -/
section
variable {G : VC} {A : Nat → Prop} {X : VX} {R : Room} {ws : va_W} {kc ks pc : Nat} {lv : List (Option Value)} {st : List Value}
theorem V.locl {x y : Int64} {lv' : List (Option Value)} (i : Nat) (h : x = y) (hx : lv[i]? = some (some (.long x))) (hlv : lv.set i (some (.long y)) = lv') (k : V G A X R ws kc ks pc lv' st) : V G A X R ws kc ks pc lv st := by
  have e : lv = lv' := by
    rw [← hlv]
    subst h
    apply List.ext_getElem?
    intro j
    by_cases hj : j = i
    · subst hj
      rw [List.getElem?_set_self (List.getElem?_eq_some_iff.mp hx).1, hx]
    · rw [List.getElem?_set_ne (Ne.symm hj)]
  rw [e]; exact k
end
def un (c : Int64) : Nat := c.toBitVec.toNat
theorem un_lt (c : Int64) : un c < 2 ^ 64 := c.toBitVec.isLt
theorem ln_bv (n : Nat) : (lN n).toBitVec = BitVec.ofNat 64 n := by unfold lN; simp
theorem ln_un (c : Int64) : c = lN (un c) := by
  apply Int64.toBitVec_inj.mp
  rw [ln_bv]
  simp [un]
theorem ln_nat {n : Nat} (h : n < 2 ^ 64) : (lN n).toBitVec.toNat = n := by rw [ln_bv, BitVec.toNat_ofNat, Nat.mod_eq_of_lt h]
theorem ln_land (n : Nat) : lN n &&& 255 = lN (n % 256) := by
  apply Int64.toBitVec_inj.mp
  rw [Int64.toBitVec_and, ln_bv, ln_bv]
  apply BitVec.eq_of_toNat_eq
  rw [BitVec.toNat_and, BitVec.toNat_ofNat, BitVec.toNat_ofNat]
  have e : (Int64.toBitVec 255).toNat = 2 ^ 8 - 1 := rfl
  rw [e, Nat.and_two_pow_sub_one_eq_mod]
  omega
theorem ln_sh : ∀ k, k < 64 → (((nI k).toInt64.toUInt64 &&& Int64.toUInt64 63).toBitVec % 64).toNat = k := by decide
theorem ln_ushr {n k : Nat} (hn : n < 2 ^ 64) (hk : k < 64) : ((lN n).toUInt64 >>> ((nI k).toInt64.toUInt64 &&& Int64.toUInt64 63)).toInt64 = lN (n / 2 ^ k) := by
  apply Int64.toBitVec_inj.mp
  apply BitVec.eq_of_toNat_eq
  rw [ln_nat (Nat.lt_of_le_of_lt (Nat.div_le_self _ _) hn)]
  show ((lN n).toUInt64 >>> ((nI k).toInt64.toUInt64 &&& Int64.toUInt64 63)).toBitVec.toNat = _
  rw [UInt64.toBitVec_shiftRight, BitVec.ushiftRight_eq', BitVec.toNat_ushiftRight, ln_sh k hk, Nat.shiftRight_eq_div_pow]
  show (lN n).toBitVec.toNat / 2 ^ k = _
  rw [ln_nat hn]
theorem ln_0 {n : Nat} (hn : n < 2 ^ 64) (h : lg_cmp (lN n) (0 : Int64) = 0) : n = 0 := by
  unfold lg_cmp at h
  split at h
  · exact absurd h (by decide)
  · split at h
    · rename_i e
      have e2 := congrArg (fun x : Int64 => x.toBitVec.toNat) e
      rw [show (lN n).toBitVec.toNat = n from ln_nat hn] at e2
      exact e2
    · exact absurd h (by decide)
theorem ln_n0 {n : Nat} (h : ¬ lg_cmp (lN n) (0 : Int64) = 0) : n ≠ 0 := by
  rintro rfl
  exact h (by decide)
theorem inL_lN {a b c : Nat} (ha : a < 2 ^ 31) (hb : b < 2 ^ 31) (hc : c < 2 ^ 31) : inL (lN a) (lN b) (lN c) = decide (b ≤ a ∧ a ≤ c) := by
  unfold inL
  rw [decide_eq_decide, lN_le hb ha, lN_le ha hc]
/-- the character i of a number, and whether it is one -/
def cdN (u i : Nat) : Nat := u / 256 ^ i % 256
def isC (k : Nat) : Bool := decide (33 ≤ k ∧ k ≤ 126)
/-- how many characters a number holds, from the character i on; f more may follow -/
def chS (u : Nat) : Nat → Nat → Nat
  | 0, i => i
  | f + 1, i => if u / 256 ^ i = 0 then i else if isC (cdN u i) = true then chS u f (i + 1) else 0
theorem cd_0 {u i : Nat} (h : u / 256 ^ i = 0) : isC (cdN u i) = false := by
  unfold cdN; rw [h]; decide
theorem chS_t {u f i : Nat} (h : isC (cdN u i) = true) : chS u (f + 1) i = chS u f (i + 1) := by
  have h0 : ¬ u / 256 ^ i = 0 := fun e => absurd ((cd_0 e).symm.trans h) (by decide)
  rw [chS, if_neg h0, if_pos h]
theorem chS_0 {u f i : Nat} (h : u / 256 ^ i = 0) : chS u f i = i := by
  cases f with
  | zero => rfl
  | succ f => rw [chS, if_pos h]
theorem chS_f {u f i : Nat} (h0 : ¬ u / 256 ^ i = 0) (h : isC (cdN u i) = false) : chS u (f + 1) i = 0 := by
  rw [chS, if_neg h0, if_neg (by rw [h]; decide)]
theorem u_8 {u : Nat} (h : u < 2 ^ 64) : u / 256 ^ 8 = 0 := Nat.div_eq_of_lt (by omega)
theorem u_s (u i : Nat) : u / 256 ^ i / 2 ^ 8 = u / 256 ^ (i + 1) := by rw [Nat.div_div_eq_div_mul]; rfl
theorem u_lt {u i : Nat} (h : u < 2 ^ 64) : u / 256 ^ i < 2 ^ 64 := Nat.lt_of_le_of_lt (Nat.div_le_self _ _) h
theorem cd_lt (u i : Nat) : cdN u i < 256 := Nat.mod_lt _ (by decide)
theorem chS_le (u : Nat) : ∀ f i, i + f ≤ 8 → chS u f i ≤ 8
  | 0, i, h => h
  | f + 1, i, h => by
    rw [chS]
    split
    · omega
    · split
      · exact chS_le u f (i + 1) (by omega)
      · omega
abbrev chN (u : Nat) : Nat := chS u 8 0
theorem chN_le (u : Nat) : chN u ≤ 8 := chS_le u 8 0 (by omega)
/-- every character of a number that is told as one is one -/
theorem chS_c {u : Nat} : ∀ f i j, i ≤ j → j < chS u f i → isC (cdN u j) = true
  | 0, i, j, h, hj => absurd hj (by rw [chS]; omega)
  | f + 1, i, j, h, hj => by
    rw [chS] at hj
    split at hj
    · omega
    · split at hj
      · rename_i hc
        by_cases e : j = i
        · subst e; exact hc
        · exact chS_c f (i + 1) j (by omega) hj
      · omega
/-- what is put: the first character of the text is the highest of the number -/
def putF (u : Nat) : Nat → Nat := fun i => cdN u (chN u - 1 - i)
theorem putF_e (u i : Nat) : u / 2 ^ (8 * (chN u - 1 - i)) % 256 = putF u i := by
  unfold putF cdN
  rw [Nat.pow_mul]
abbrev rm_c_X5_charactersOf : Room := { frames := 1, cells := 0, slots := 0, locals := 25 }
theorem hd_X5_charactersOf : yX5_charactersOf.cls ≠ "java/lang/invoke/MethodHandle" ∧ yX5_charactersOf.cls ≠ "java/lang/invoke/VarHandle" ∧ (parseMethodDescriptor yX5_charactersOf.desc).map (fun d => d.parameters.length) = some 1 := by decide +kernel
set_option maxRecDepth 100000 in
set_option maxHeartbeats 8000000 in
theorem c_X5_charactersOf (G : VC) (u_ : Nat) (hu : u_ < 2 ^ 64) : Ctr yX5_charactersOf wsX5_charactersOf rm_c_X5_charactersOf G [.long (lN u_)] (bl []) (fun v9_ u9_ => u9_ = (bl []) ∧ v9_ = some (.int (nI (chN u_)))) := by
  refine Ctr.int (cc := cX5_charactersOf) (maxL := 5) (ret := (some .int)) (lv0 := [some (.long (lN u_)), none, none, none, none]) (by decide) rfl rfl rfl (Nat.le_of_ble_eq_true rfl) rfl (fun A X E hend => ?_)
  refine V.lload_n E dX5_charactersOf_0 rfl rfl ?_
  refine V.lstore_n (lv' := [some (.long (lN u_)), none, some (.long (lN u_)), none, none]) E dX5_charactersOf_1 rfl (Nat.le_of_ble_eq_true rfl) rfl rfl ?_
  refine V.iconst (v := nI (0)) E dX5_charactersOf_2 (by decide) ?_
  refine V.istore (lv' := [some (.long (lN u_)), none, some (.long (lN u_)), none, some (.int (nI (0)))]) E dX5_charactersOf_3 (Nat.le_of_ble_eq_true rfl) rfl rfl ?_
  refine V.drop (lv' := [none, none, some (.long (lN u_)), none, some (.int (nI (0)))]) [false, true, true, true, true] rfl ?_
  refine V.locl (y := lN (u_ / 256 ^ 0)) (lv' := [none, none, some (.long (lN (u_ / 256 ^ 0))), none, some (.int (nI (0)))]) 2 (by rw [Nat.pow_zero, Nat.div_one]) rfl rfl ?_
  refine loopN (P := fun i5 => ∀ zz : Unit, (chN u_ = chS u_ (8 - i5) i5) → V G A X rm_c_X5_charactersOf (bl []) 0 0 5 [none, none, some (.long (lN (u_ / 256 ^ i5))), none, some (.int (nI (i5)))] []) 8 (fun i5 hi_5 ih_5 zz hg_5 => ?_) 0 (Nat.zero_le _) (()) (rfl)
  refine V.iload E dX5_charactersOf_5 rfl ?_
  refine V.bipush (v := nI (8)) E dX5_charactersOf_7 (by decide) ?_
  refine V.icmp_geN (tgt := 40) E (by omega) (by omega) dX5_charactersOf_9 (by decide) (fun q_9 => ?_) (fun q_9 => ?_)
  · obtain rfl : i5 = 8 := by omega
    refine V.lload_n E dX5_charactersOf_40 rfl rfl ?_
    refine V.lconst (v := 0) E dX5_charactersOf_41 (by decide) ?_
    refine V.lcmp E dX5_charactersOf_42 ?_
    refine V.if_ne (tgt := 51) E dX5_charactersOf_43 (by decide) (fun q_43 => ?_) (fun q_43 => ?_)
    · refine V.iconst (v := nI (0)) E dX5_charactersOf_51 (by decide) ?_
      refine V.topN (b := chN u_) (by first | exact (hg_5.trans (chS_0 (ln_0 (u_lt hu) q_43))).symm | exact absurd (u_8 hu) (ln_n0 q_43) | exact (hg_5.trans (by rw [show 8 - i5 = (8 - (i5 + 1)) + 1 by omega]; exact chS_f (ln_n0 q_43) q_26)).symm) ?_
      exact hend _ _ _ _ dX5_charactersOf_52 (nrI _) ⟨rfl, rfl⟩
    · refine V.iload E dX5_charactersOf_46 rfl ?_
      refine V.goto (tgt := 52) E dX5_charactersOf_48 (by decide) ?_
      refine V.topN (b := chN u_) (by first | exact (hg_5.trans (chS_0 (ln_0 (u_lt hu) q_43))).symm | exact absurd (u_8 hu) (ln_n0 q_43) | exact (hg_5.trans (by rw [show 8 - i5 = (8 - (i5 + 1)) + 1 by omega]; exact chS_f (ln_n0 q_43) q_26)).symm) ?_
      exact hend _ _ _ _ dX5_charactersOf_52 (nrI _) ⟨rfl, rfl⟩
  · refine V.lload_n E dX5_charactersOf_12 rfl rfl ?_
    refine V.ldc2 (v := 255) E (by decide +kernel) dX5_charactersOf_13 ?_
    refine V.land E dX5_charactersOf_16 ?_
    refine V.topl (y := lN (u_ / 256 ^ i5 % 256)) (ln_land _) ?_
    refine V.ldc2 (v := 33) E (by decide +kernel) dX5_charactersOf_17 ?_
    refine V.ldc2 (v := 126) E (by decide +kernel) dX5_charactersOf_20 ?_
    refine V.callS E (c_X5_in G (lN (u_ / 256 ^ i5 % 256)) ((33 : Int64)) ((126 : Int64)) ) (bl []) [] gX5_charactersOf_X5_in rfl hd_X5_in ⟨⟨Nat.le_of_ble_eq_true rfl, Nat.le_of_ble_eq_true rfl⟩, Nat.le_of_ble_eq_true rfl, Nat.le_of_ble_eq_true rfl⟩ rfl (Nat.le_of_ble_eq_true rfl) rfl dX5_charactersOf_23 (List.Perm.refl _) (kc' := 0) (ks' := 0) rfl rfl (rwI (ws' := (bl [])) (List.Perm.refl _) ?_)
    refine V.topN (b := bN (isC (cdN u_ i5))) (congrArg bN (inL_lN (by omega) (by decide) (by decide))) ?_
    refine V.if_eqB (tgt := 40) E dX5_charactersOf_26 (by decide) (fun q_26 => ?_) (fun q_26 => ?_)
    · refine V.lload_n E dX5_charactersOf_40 rfl rfl ?_
      refine V.lconst (v := 0) E dX5_charactersOf_41 (by decide) ?_
      refine V.lcmp E dX5_charactersOf_42 ?_
      refine V.if_ne (tgt := 51) E dX5_charactersOf_43 (by decide) (fun q_43 => ?_) (fun q_43 => ?_)
      · refine V.iconst (v := nI (0)) E dX5_charactersOf_51 (by decide) ?_
        refine V.topN (b := chN u_) (by first | exact (hg_5.trans (chS_0 (ln_0 (u_lt hu) q_43))).symm | exact absurd (u_8 hu) (ln_n0 q_43) | exact (hg_5.trans (by rw [show 8 - i5 = (8 - (i5 + 1)) + 1 by omega]; exact chS_f (ln_n0 q_43) q_26)).symm) ?_
        exact hend _ _ _ _ dX5_charactersOf_52 (nrI _) ⟨rfl, rfl⟩
      · refine V.iload E dX5_charactersOf_46 rfl ?_
        refine V.goto (tgt := 52) E dX5_charactersOf_48 (by decide) ?_
        refine V.topN (b := chN u_) (by first | exact (hg_5.trans (chS_0 (ln_0 (u_lt hu) q_43))).symm | exact absurd (u_8 hu) (ln_n0 q_43) | exact (hg_5.trans (by rw [show 8 - i5 = (8 - (i5 + 1)) + 1 by omega]; exact chS_f (ln_n0 q_43) q_26)).symm) ?_
        exact hend _ _ _ _ dX5_charactersOf_52 (nrI _) ⟨rfl, rfl⟩
    · refine V.lload_n E dX5_charactersOf_29 rfl rfl ?_
      refine V.bipush (v := nI (8)) E dX5_charactersOf_30 (by decide) ?_
      refine V.lushr (v := lN (u_ / 256 ^ i5 / 2 ^ 8)) E dX5_charactersOf_32 (ln_ushr (u_lt hu) (by decide)) ?_
      refine V.lstore_n (lv' := [none, none, some (.long (lN (u_ / 256 ^ i5 / 2 ^ 8))), none, some (.int (nI (i5)))]) E dX5_charactersOf_33 rfl (Nat.le_of_ble_eq_true rfl) rfl rfl ?_
      refine V.iincN (lv' := [none, none, some (.long (lN (u_ / 256 ^ i5 / 2 ^ 8))), none, some (.int (nI (i5 + 1)))]) E dX5_charactersOf_34 rfl (Nat.le_of_ble_eq_true rfl) rfl rfl ?_
      refine V.goto (tgt := 5) E dX5_charactersOf_37 (by decide) ?_
      refine V.locl (y := lN (u_ / 256 ^ (i5 + 1))) (lv' := [none, none, some (.long (lN (u_ / 256 ^ (i5 + 1)))), none, some (.int (nI (i5 + 1)))]) 2 (by rw [u_s]) rfl rfl ?_
      exact ih_5 (by omega) (()) (hg_5.trans (by rw [show 8 - i5 = (8 - (i5 + 1)) + 1 by omega]; exact chS_t q_26))
abbrev rm_c_X5_put_bad : Room := { frames := 2, cells := 0, slots := 0, locals := 49 }
theorem hd_X5_put : yX5_put.cls ≠ "java/lang/invoke/MethodHandle" ∧ yX5_put.cls ≠ "java/lang/invoke/VarHandle" ∧ (parseMethodDescriptor yX5_put.desc).map (fun d => d.parameters.length) = some 1 := by decide +kernel
set_option maxRecDepth 100000 in
set_option maxHeartbeats 8000000 in
theorem c_X5_put_bad (G : VC) (a : Nat → Nat) (hi : Nat → Nat) (sl : Nat → Nat) (sv : Nat → Nat) (r : Nat → Nat) (o : Nat → Nat) (k : Nat → Nat) (t : Nat → Nat) (m : Nat → Nat) (e : Nat → Nat) (w : Nat → Nat) (tx : Nat → Nat) (cl : Nat → Int32) (hl : Nat) (tl : Nat) (sp : Nat) (rd : Nat) (x : SC) (u_ : Nat) (hu : u_ < 2 ^ 64) (hb : chN u_ = 0) : Ctr yX5_put wsX5_put rm_c_X5_put_bad G [.ref (a 0), .long (lN u_)] (bl [mdW G a (fla x) hi sl sv r o k t m e w tx cl hl tl sp rd]) (fun v9_ u9_ => u9_ = (bl [mdW G a (fla x) hi sl sv r o k t m e w tx cl hl tl sp rd]) ∧ v9_ = some (.int ((-2 : Int32)))) := by
  refine Ctr.int (cc := cX5_put) (maxL := 5) (ret := (some .int)) (lv0 := [some (.ref (a 0)), some (.long (lN u_)), none, none, none]) (by decide) rfl rfl rfl (Nat.le_of_ble_eq_true rfl) rfl (fun A X E hend => ?_)
  refine V.lload_n E dX5_put_0 rfl rfl ?_
  refine V.callS E (c_X5_charactersOf G u_ (by omega)) (bl [mdW G a (fla x) hi sl sv r o k t m e w tx cl hl tl sp rd]) [] gX5_put_X5_charactersOf rfl hd_X5_charactersOf ⟨⟨Nat.le_of_ble_eq_true rfl, Nat.le_of_ble_eq_true rfl⟩, Nat.le_of_ble_eq_true rfl, Nat.le_of_ble_eq_true rfl⟩ rfl (Nat.le_of_ble_eq_true rfl) rfl dX5_put_1 (List.Perm.refl _) (kc' := 0) (ks' := 0) rfl rfl (rwI (ws' := (bl [mdW G a (fla x) hi sl sv r o k t m e w tx cl hl tl sp rd])) (List.Perm.refl _) ?_)
  refine V.istore_n (lv' := [some (.ref (a 0)), some (.long (lN u_)), none, some (.int (nI (chN u_))), none]) E dX5_put_4 rfl (Nat.le_of_ble_eq_true rfl) rfl rfl ?_
  refine V.iload_n E dX5_put_5 rfl rfl ?_
  refine V.if_neN (tgt := 12) E (Nat.lt_of_le_of_lt (chN_le u_) (by decide)) dX5_put_6 (by decide) (fun q_6 => ?_) (fun q_6 => ?_)
  · exact absurd hb q_6
  · refine V.bipush (v := (-2 : Int32)) E dX5_put_9 (by decide) ?_
    exact hend _ _ _ _ dX5_put_11 (nrI _) ⟨rfl, rfl⟩
abbrev rm_c_X5_put_many : Room := { frames := 2, cells := 0, slots := 0, locals := 49 }
set_option maxRecDepth 100000 in
set_option maxHeartbeats 8000000 in
theorem c_X5_put_many (G : VC) (a : Nat → Nat) (hi : Nat → Nat) (sl : Nat → Nat) (sv : Nat → Nat) (r : Nat → Nat) (o : Nat → Nat) (k : Nat → Nat) (t : Nat → Nat) (m : Nat → Nat) (e : Nat → Nat) (w : Nat → Nat) (tx : Nat → Nat) (cl : Nat → Int32) (hl : Nat) (tl : Nat) (sp : Nat) (rd : Nat) (x : SC) (u_ : Nat) (hu : u_ < 2 ^ 64) (ht : tl ≤ 48) (hb : chN u_ ≠ 0) (hm : 48 < tl + chN u_) : Ctr yX5_put wsX5_put rm_c_X5_put_many G [.ref (a 0), .long (lN u_)] (bl [mdW G a (fla x) hi sl sv r o k t m e w tx cl hl tl sp rd]) (fun v9_ u9_ => u9_ = (bl [mdW G a (fla x) hi sl sv r o k t m e w tx cl hl tl sp rd]) ∧ v9_ = some (.int ((-4 : Int32)))) := by
  refine Ctr.int (cc := cX5_put) (maxL := 5) (ret := (some .int)) (lv0 := [some (.ref (a 0)), some (.long (lN u_)), none, none, none]) (by decide) rfl rfl rfl (Nat.le_of_ble_eq_true rfl) rfl (fun A X E hend => ?_)
  refine V.lload_n E dX5_put_0 rfl rfl ?_
  refine V.callS E (c_X5_charactersOf G u_ (by omega)) (bl [mdW G a (fla x) hi sl sv r o k t m e w tx cl hl tl sp rd]) [] gX5_put_X5_charactersOf rfl hd_X5_charactersOf ⟨⟨Nat.le_of_ble_eq_true rfl, Nat.le_of_ble_eq_true rfl⟩, Nat.le_of_ble_eq_true rfl, Nat.le_of_ble_eq_true rfl⟩ rfl (Nat.le_of_ble_eq_true rfl) rfl dX5_put_1 (List.Perm.refl _) (kc' := 0) (ks' := 0) rfl rfl (rwI (ws' := (bl [mdW G a (fla x) hi sl sv r o k t m e w tx cl hl tl sp rd])) (List.Perm.refl _) ?_)
  refine V.istore_n (lv' := [some (.ref (a 0)), some (.long (lN u_)), none, some (.int (nI (chN u_))), none]) E dX5_put_4 rfl (Nat.le_of_ble_eq_true rfl) rfl rfl ?_
  refine V.iload_n E dX5_put_5 rfl rfl ?_
  refine V.if_neN (tgt := 12) E (Nat.lt_of_le_of_lt (chN_le u_) (by decide)) dX5_put_6 (by decide) (fun q_6 => ?_) (fun q_6 => ?_)
  · refine V.aload_n E dX5_put_12 rfl rfl ?_
    refine V.getf (C := RX5) (T := TX5) (N := 17) (ref := "GlassSpillModel") E 0 5 13 (by decide +kernel) rfl rfl (by decide) (by decide +kernel) rfl rfl dX5_put_13 ?_
    refine V.iload_n E dX5_put_16 rfl rfl ?_
    refine V.iaddN E  dX5_put_17 ?_
    refine V.bipush (v := nI (48)) E dX5_put_18 (by decide) ?_
    refine V.icmp_leN (tgt := 26) E (by have := chN_le u_; omega) (by decide) dX5_put_20 (by decide) (fun q_20 => ?_) (fun q_20 => ?_)
    · exact absurd q_20 (by omega)
    · refine V.bipush (v := (-4 : Int32)) E dX5_put_23 (by decide) ?_
      exact hend _ _ _ _ dX5_put_25 (nrI _) ⟨rfl, rfl⟩
  · exact absurd q_6 hb
abbrev rm_c_X5_put_ok : Room := { frames := 2, cells := 0, slots := 0, locals := 49 }
set_option maxRecDepth 100000 in
set_option maxHeartbeats 8000000 in
theorem c_X5_put_ok (G : VC) (a : Nat → Nat) (hi : Nat → Nat) (sl : Nat → Nat) (sv : Nat → Nat) (r : Nat → Nat) (o : Nat → Nat) (k : Nat → Nat) (t : Nat → Nat) (m : Nat → Nat) (e : Nat → Nat) (w : Nat → Nat) (tx : Nat → Nat) (cl : Nat → Int32) (hl : Nat) (tl : Nat) (sp : Nat) (rd : Nat) (x : SC) (u_ : Nat) (hu : u_ < 2 ^ 64) (ht : tl ≤ 48) (hb : chN u_ ≠ 0) (hm : tl + chN u_ ≤ 48) : Ctr yX5_put wsX5_put rm_c_X5_put_ok G [.ref (a 0), .long (lN u_)] (bl [mdW G a (fla x) hi sl sv r o k t m e w tx cl hl tl sp rd]) (fun v9_ u9_ => u9_ = (bl [mdW G a (fla x) hi sl sv r o k t m e w (ins tl (chN u_) (putF u_) tx) cl hl (tl + chN u_) sp rd]) ∧ v9_ = some (.int (nI (tl + chN u_)))) := by
  refine Ctr.int (cc := cX5_put) (maxL := 5) (ret := (some .int)) (lv0 := [some (.ref (a 0)), some (.long (lN u_)), none, none, none]) (by decide) rfl rfl rfl (Nat.le_of_ble_eq_true rfl) rfl (fun A X E hend => ?_)
  refine V.lload_n E dX5_put_0 rfl rfl ?_
  refine V.callS E (c_X5_charactersOf G u_ (by omega)) (bl [mdW G a (fla x) hi sl sv r o k t m e w tx cl hl tl sp rd]) [] gX5_put_X5_charactersOf rfl hd_X5_charactersOf ⟨⟨Nat.le_of_ble_eq_true rfl, Nat.le_of_ble_eq_true rfl⟩, Nat.le_of_ble_eq_true rfl, Nat.le_of_ble_eq_true rfl⟩ rfl (Nat.le_of_ble_eq_true rfl) rfl dX5_put_1 (List.Perm.refl _) (kc' := 0) (ks' := 0) rfl rfl (rwI (ws' := (bl [mdW G a (fla x) hi sl sv r o k t m e w tx cl hl tl sp rd])) (List.Perm.refl _) ?_)
  refine V.istore_n (lv' := [some (.ref (a 0)), some (.long (lN u_)), none, some (.int (nI (chN u_))), none]) E dX5_put_4 rfl (Nat.le_of_ble_eq_true rfl) rfl rfl ?_
  refine V.iload_n E dX5_put_5 rfl rfl ?_
  refine V.if_neN (tgt := 12) E (Nat.lt_of_le_of_lt (chN_le u_) (by decide)) dX5_put_6 (by decide) (fun q_6 => ?_) (fun q_6 => ?_)
  · refine V.aload_n E dX5_put_12 rfl rfl ?_
    refine V.getf (C := RX5) (T := TX5) (N := 17) (ref := "GlassSpillModel") E 0 5 13 (by decide +kernel) rfl rfl (by decide) (by decide +kernel) rfl rfl dX5_put_13 ?_
    refine V.iload_n E dX5_put_16 rfl rfl ?_
    refine V.iaddN E  dX5_put_17 ?_
    refine V.bipush (v := nI (48)) E dX5_put_18 (by decide) ?_
    refine V.icmp_leN (tgt := 26) E (by have := chN_le u_; omega) (by decide) dX5_put_20 (by decide) (fun q_20 => ?_) (fun q_20 => ?_)
    · refine V.iconst (v := nI (0)) E dX5_put_26 (by decide) ?_
      refine V.istore (lv' := [some (.ref (a 0)), some (.long (lN u_)), none, some (.int (nI (chN u_))), some (.int (nI (0)))]) E dX5_put_27 (Nat.le_of_ble_eq_true rfl) rfl rfl ?_
      refine V.arr (f' := nA (ins tl 0 (putF u_) tx)) (ws' := (bl [mdW G a (fla x) hi sl sv r o k t m e w (ins tl 0 (putF u_) tx) cl hl tl sp rd])) 12 rfl (fun j _ => ins_0 j) rfl ?_
      refine loopN (P := fun i29 => V G A X rm_c_X5_put_ok (bl [mdW G a (fla x) hi sl sv r o k t m e w (ins tl i29 (putF u_) tx) cl hl tl sp rd]) 0 0 29 [some (.ref (a 0)), some (.long (lN u_)), none, some (.int (nI (chN u_))), some (.int (nI (i29)))] []) (chN u_) (fun i29 hi_29 ih_29 => ?_) 0 (Nat.zero_le _)
      refine V.iload E dX5_put_29 rfl ?_
      refine V.iload_n E dX5_put_31 rfl rfl ?_
      refine V.icmp_geN (tgt := 69) E (by have := chN_le u_; omega) (by have := chN_le u_; omega) dX5_put_32 (by decide) (fun q_32 => ?_) (fun q_32 => ?_)
      · obtain rfl : chN u_ = i29 := by omega
        refine V.aload_n E dX5_put_69 rfl rfl ?_
        refine V.dup E dX5_put_70 rfl ?_
        refine V.getf (C := RX5) (T := TX5) (N := 17) (ref := "GlassSpillModel") E 0 5 13 (by decide +kernel) rfl rfl (by decide) (by decide +kernel) rfl rfl dX5_put_71 ?_
        refine V.iload_n E dX5_put_74 rfl rfl ?_
        refine V.iaddN E  dX5_put_75 ?_
        refine V.putf (C := RX5) (T := TX5) (N := 17) (ref := "GlassSpillModel") (ws' := (bl [mdW G a (fla x) hi sl sv r o k t m e w (ins tl (chN u_) (putF u_) tx) cl hl (tl + (chN u_)) sp rd])) E 0 5 13 (by decide +kernel) tyX5_ok nmX5 rfl rfl (by decide) (by decide +kernel) rfl rfl rfl rfl (Nat.le_of_ble_eq_true rfl) dX5_put_76 rfl ?_
        refine V.aload_n E dX5_put_79 rfl rfl ?_
        refine V.getf (C := RX5) (T := TX5) (N := 17) (ref := "GlassSpillModel") E 0 5 13 (by decide +kernel) rfl rfl (by decide) (by decide +kernel) rfl rfl dX5_put_80 ?_
        refine V.topN (b := tl + chN u_) (by first | rfl | omega | simp_all) ?_
        exact hend _ _ _ _ dX5_put_83 (nrI _) ⟨rfl, rfl⟩
      · refine V.aload_n E dX5_put_35 rfl rfl ?_
        refine V.getf (C := RX5) (T := TX5) (N := 17) (ref := "GlassSpillModel") E 0 5 12 (by decide +kernel) rfl rfl (by decide) (by decide +kernel) rfl rfl dX5_put_36 ?_
        refine V.aload_n E dX5_put_39 rfl rfl ?_
        refine V.getf (C := RX5) (T := TX5) (N := 17) (ref := "GlassSpillModel") E 0 5 13 (by decide +kernel) rfl rfl (by decide) (by decide +kernel) rfl rfl dX5_put_40 ?_
        refine V.iload E dX5_put_43 rfl ?_
        refine V.iaddN E  dX5_put_45 ?_
        refine V.lload_n E dX5_put_46 rfl rfl ?_
        refine V.bipush (v := nI (8)) E dX5_put_47 (by decide) ?_
        refine V.iload_n E dX5_put_49 rfl rfl ?_
        refine V.iconst (v := nI (1)) E dX5_put_50 (by decide) ?_
        refine V.isubN E (by omega) dX5_put_51 ?_
        refine V.iload E dX5_put_52 rfl ?_
        refine V.isubN E (by omega) dX5_put_54 ?_
        refine V.imulN E  dX5_put_55 ?_
        refine V.lushr (v := lN (u_ / 2 ^ (8 * (((chN u_) - 1) - i29)))) E dX5_put_56 (ln_ushr hu (by have := chN_le u_; omega)) ?_
        refine V.ldc2 (v := 255) E (by decide +kernel) dX5_put_57 ?_
        refine V.land E dX5_put_60 ?_
        refine V.topl (y := lN (u_ / 2 ^ (8 * (chN u_ - 1 - i29)) % 256)) (ln_land _) ?_
        refine V.l2i E dX5_put_61 rfl ?_
        refine V.top (y := nI (putF u_ i29)) ((lN_i _).trans (congrArg nI (putF_e u_ i29))) ?_
        refine V.iastN (f' := nA (ins tl (i29 + 1) (putF u_) tx)) (ws' := (bl [mdW G a (fla x) hi sl sv r o k t m e w (ins tl (i29 + 1) (putF u_) tx) cl hl tl sp rd])) E 12 rfl (by omega) (by decide) dX5_put_62 (fun j _ => ins_u j) rfl ?_
        refine V.iincN (lv' := [some (.ref (a 0)), some (.long (lN u_)), none, some (.int (nI (chN u_))), some (.int (nI (i29 + 1)))]) E dX5_put_63 rfl (Nat.le_of_ble_eq_true rfl) rfl rfl ?_
        refine V.goto (tgt := 29) E dX5_put_66 (by decide) ?_
        exact ih_29 (by omega)
    · exact absurd q_20 (by omega)
  · exact absurd q_6 hb
/-- a character that tells a part, and the part -/
def isP (c : Nat) : Bool := decide (48 ≤ c ∧ c ≤ 57 ∨ 97 ≤ c ∧ c ≤ 102)
def pv (c : Nat) : Nat := if c ≤ 57 then c - 48 else c - 87
theorem pv_lt {c : Nat} (h : isP c = true) : pv c < 16 := by
  have h := of_decide_eq_true h
  unfold pv
  split <;> omega
theorem pv_6 {c : Nat} (h : isP c = true) : ¬ nI (pv c) = -6 := by
  have h := pv_lt h
  rw [i_eq, nI_toInt (by omega), show (-6 : Int32).toInt = -6 from rfl]
  omega
/-- the character at a place of the text, 0 behind its end -/
def txc (tl : Nat) (tx : Nat → Nat) (s : Nat) : Nat := if s < tl then tx s else 0
/-- the text: its length, its characters -/
def TI (tl : Nat) (tx : Nat → Nat) : Prop := tl ≤ 48 ∧ ∀ j, j < 48 → tx j < 256
theorem TI.c {tl : Nat} {tx : Nat → Nat} (h : TI tl tx) (s : Nat) : txc tl tx s < 256 := by
  unfold txc
  split
  · exact h.2 s (by have := h.1; omega)
  · decide
theorem TI.put {tl : Nat} {tx : Nat → Nat} (h : TI tl tx) {u : Nat} (hm : tl + chN u ≤ 48) : TI (tl + chN u) (ins tl (chN u) (putF u) tx) := by
  refine ⟨hm, fun j hj => ?_⟩
  unfold ins
  split
  · exact cd_lt _ _
  · exact h.2 j hj
theorem TI.wipe {tl : Nat} {tx : Nat → Nat} (h : TI tl tx) : TI 0 tx := ⟨by decide, h.2⟩
theorem txc_i {tl s : Nat} {tx : Nat → Nat} (h : s < tl) : txc tl tx s = tx s := if_pos h
theorem txc_o {tl s : Nat} {tx : Nat → Nat} (h : ¬ s < tl) : txc tl tx s = 0 := if_neg h
theorem isP_1 {c : Nat} (h : decide (48 ≤ c ∧ c ≤ 57) = true) : isP c = true ∧ pv c = c - 48 := by
  have h := of_decide_eq_true h
  exact ⟨decide_eq_true (by omega), if_pos (by omega)⟩
theorem isP_2 {c : Nat} (h1 : decide (48 ≤ c ∧ c ≤ 57) = false) (h : decide (97 ≤ c ∧ c ≤ 102) = true) : isP c = true ∧ pv c = c - 87 := by
  have h := of_decide_eq_true h
  exact ⟨decide_eq_true (by omega), if_neg (by omega)⟩
theorem isP_0 {c : Nat} (h1 : decide (48 ≤ c ∧ c ≤ 57) = false) (h : decide (97 ≤ c ∧ c ≤ 102) = false) : isP c = false := by
  have h := of_decide_eq_false h
  have h1 := of_decide_eq_false h1
  exact decide_eq_false (by omega)
theorem isP_in {tl s : Nat} {tx : Nat → Nat} (h : isP (txc tl tx s) = true) : s < tl := by
  rcases Nat.lt_or_ge s tl with h1 | h1
  · exact h1
  · rw [txc_o (by omega)] at h; exact absurd h (by decide)
abbrev rm_c_X5_readsPart_t : Room := { frames := 1, cells := 0, slots := 0, locals := 25 }
theorem hd_X5_readsPart : yX5_readsPart.cls ≠ "java/lang/invoke/MethodHandle" ∧ yX5_readsPart.cls ≠ "java/lang/invoke/VarHandle" ∧ (parseMethodDescriptor yX5_readsPart.desc).map (fun d => d.parameters.length) = some 0 := by decide +kernel
set_option maxRecDepth 100000 in
set_option maxHeartbeats 8000000 in
theorem c_X5_readsPart_t (G : VC) (a : Nat → Nat) (hi : Nat → Nat) (sl : Nat → Nat) (sv : Nat → Nat) (r : Nat → Nat) (o : Nat → Nat) (k : Nat → Nat) (t : Nat → Nat) (m : Nat → Nat) (e : Nat → Nat) (w : Nat → Nat) (tx : Nat → Nat) (cl : Nat → Int32) (hl : Nat) (tl : Nat) (sp : Nat) (rd : Nat) (x : SC) (ht : TI tl tx) (hs : sp ≤ 48) (hp : isP (txc tl tx sp) = true) : Ctr yX5_readsPart wsX5_readsPart rm_c_X5_readsPart_t G [.ref (a 0)] (bl [mdW G a (fla x) hi sl sv r o k t m e w tx cl hl tl sp rd]) (fun v9_ u9_ => u9_ = (bl [mdW G a (fla x) hi sl sv r o k t m e w tx cl hl tl (sp + 1) rd]) ∧ v9_ = some (.int (nI (pv (txc tl tx sp))))) := by
  refine Ctr.int (cc := cX5_readsPart) (maxL := 3) (ret := (some .int)) (lv0 := [some (.ref (a 0)), none, none]) (by decide) rfl rfl rfl (Nat.le_of_ble_eq_true rfl) rfl (fun A X E hend => ?_)
  refine V.aload_n E dX5_readsPart_0 rfl rfl ?_
  refine V.getf (C := RX5) (T := TX5) (N := 17) (ref := "GlassSpillModel") E 0 5 14 (by decide +kernel) rfl rfl (by decide) (by decide +kernel) rfl rfl dX5_readsPart_1 ?_
  refine V.aload_n E dX5_readsPart_4 rfl rfl ?_
  refine V.getf (C := RX5) (T := TX5) (N := 17) (ref := "GlassSpillModel") E 0 5 13 (by decide +kernel) rfl rfl (by decide) (by decide +kernel) rfl rfl dX5_readsPart_5 ?_
  refine V.icmp_geN (tgt := 23) E (by omega) (by have := ht.1; omega) dX5_readsPart_8 (by decide) (fun q_8 => ?_) (fun q_8 => ?_)
  · refine V.iconst (v := nI (0)) E dX5_readsPart_23 (by decide) ?_
    refine V.topN (b := txc tl tx sp) ((txc_o (by omega)).symm) ?_
    refine V.istore_n (lv' := [some (.ref (a 0)), some (.int (nI (txc tl tx sp))), none]) E dX5_readsPart_24 rfl (Nat.le_of_ble_eq_true rfl) rfl rfl ?_
    refine V.iload_n E dX5_readsPart_25 rfl rfl ?_
    refine V.i2l E dX5_readsPart_26 rfl ?_
    refine V.ldc2 (v := 48) E (by decide +kernel) dX5_readsPart_27 ?_
    refine V.ldc2 (v := 57) E (by decide +kernel) dX5_readsPart_30 ?_
    refine V.callS E (c_X5_in G ((nI (txc tl tx sp)).toInt64) ((48 : Int64)) ((57 : Int64)) ) (bl [mdW G a (fla x) hi sl sv r o k t m e w tx cl hl tl sp rd]) [] gX5_readsPart_X5_in rfl hd_X5_in ⟨⟨Nat.le_of_ble_eq_true rfl, Nat.le_of_ble_eq_true rfl⟩, Nat.le_of_ble_eq_true rfl, Nat.le_of_ble_eq_true rfl⟩ rfl (Nat.le_of_ble_eq_true rfl) rfl dX5_readsPart_33 (List.Perm.refl _) (kc' := 0) (ks' := 0) rfl rfl (rwI (ws' := (bl [mdW G a (fla x) hi sl sv r o k t m e w tx cl hl tl sp rd])) (List.Perm.refl _) ?_)
    refine V.topN (b := bN (decide (48 ≤ txc tl tx sp ∧ txc tl tx sp ≤ 57))) (congrArg bN (inL_LN (Nat.lt_trans (ht.c sp) (by decide)) (by decide) (by decide))) ?_
    refine V.if_eqB (tgt := 46) E dX5_readsPart_36 (by decide) (fun q_36 => ?_) (fun q_36 => ?_)
    · refine V.iload_n E dX5_readsPart_46 rfl rfl ?_
      refine V.i2l E dX5_readsPart_47 rfl ?_
      refine V.ldc2 (v := 97) E (by decide +kernel) dX5_readsPart_48 ?_
      refine V.ldc2 (v := 102) E (by decide +kernel) dX5_readsPart_51 ?_
      refine V.callS E (c_X5_in G ((nI (txc tl tx sp)).toInt64) ((97 : Int64)) ((102 : Int64)) ) (bl [mdW G a (fla x) hi sl sv r o k t m e w tx cl hl tl sp rd]) [] gX5_readsPart_X5_in rfl hd_X5_in ⟨⟨Nat.le_of_ble_eq_true rfl, Nat.le_of_ble_eq_true rfl⟩, Nat.le_of_ble_eq_true rfl, Nat.le_of_ble_eq_true rfl⟩ rfl (Nat.le_of_ble_eq_true rfl) rfl dX5_readsPart_54 (List.Perm.refl _) (kc' := 0) (ks' := 0) rfl rfl (rwI (ws' := (bl [mdW G a (fla x) hi sl sv r o k t m e w tx cl hl tl sp rd])) (List.Perm.refl _) ?_)
      refine V.topN (b := bN (decide (97 ≤ txc tl tx sp ∧ txc tl tx sp ≤ 102))) (congrArg bN (inL_LN (Nat.lt_trans (ht.c sp) (by decide)) (by decide) (by decide))) ?_
      refine V.if_eqB (tgt := 70) E dX5_readsPart_57 (by decide) (fun q_57 => ?_) (fun q_57 => ?_)
      · exact absurd ((isP_0 q_36 q_57).symm.trans hp) (by decide)
      · refine V.iload_n E dX5_readsPart_60 rfl rfl ?_
        refine V.bipush (v := nI (97)) E dX5_readsPart_61 (by decide) ?_
        refine V.isubN E (by have h9 := of_decide_eq_true q_57; omega) dX5_readsPart_63 ?_
        refine V.bipush (v := nI (10)) E dX5_readsPart_64 (by decide) ?_
        refine V.iaddN E  dX5_readsPart_66 ?_
        refine V.goto (tgt := 72) E dX5_readsPart_67 (by decide) ?_
        refine V.topN (b := pv (txc tl tx sp)) ((by rw [(isP_2 q_36 q_57).2]; have h9 := of_decide_eq_true q_57; omega)) ?_
        refine V.istore_n (lv' := [some (.ref (a 0)), some (.int (nI (txc tl tx sp))), some (.int (nI (pv (txc tl tx sp))))]) E dX5_readsPart_72 rfl (Nat.le_of_ble_eq_true rfl) rfl rfl ?_
        refine V.aload_n E dX5_readsPart_73 rfl rfl ?_
        refine V.dup E dX5_readsPart_74 rfl ?_
        refine V.getf (C := RX5) (T := TX5) (N := 17) (ref := "GlassSpillModel") E 0 5 14 (by decide +kernel) rfl rfl (by decide) (by decide +kernel) rfl rfl dX5_readsPart_75 ?_
        refine V.iload_n E dX5_readsPart_78 rfl rfl ?_
        refine V.bipush (v := (-6 : Int32)) E dX5_readsPart_79 (by decide) ?_
        refine V.icmp_ne (tgt := 88) E dX5_readsPart_81 (by decide) (fun q_81 => ?_) (fun q_81 => ?_)
        · refine V.iconst (v := nI (1)) E dX5_readsPart_88 (by decide) ?_
          refine V.iaddN E  dX5_readsPart_89 ?_
          refine V.putf (C := RX5) (T := TX5) (N := 17) (ref := "GlassSpillModel") (ws' := (bl [mdW G a (fla x) hi sl sv r o k t m e w tx cl hl tl (sp + 1) rd])) E 0 5 14 (by decide +kernel) tyX5_ok nmX5 rfl rfl (by decide) (by decide +kernel) rfl rfl rfl rfl (Nat.le_of_ble_eq_true rfl) dX5_readsPart_90 rfl ?_
          refine V.iload_n E dX5_readsPart_93 rfl rfl ?_
          exact hend _ _ _ _ dX5_readsPart_94 (nrI _) ⟨rfl, rfl⟩
        · exact absurd q_81 (pv_6 hp)
    · refine V.iload_n E dX5_readsPart_39 rfl rfl ?_
      refine V.bipush (v := nI (48)) E dX5_readsPart_40 (by decide) ?_
      refine V.isubN E (by have h9 := of_decide_eq_true q_36; omega) dX5_readsPart_42 ?_
      refine V.goto (tgt := 72) E dX5_readsPart_43 (by decide) ?_
      refine V.topN (b := pv (txc tl tx sp)) ((isP_1 q_36).2.symm) ?_
      refine V.istore_n (lv' := [some (.ref (a 0)), some (.int (nI (txc tl tx sp))), some (.int (nI (pv (txc tl tx sp))))]) E dX5_readsPart_72 rfl (Nat.le_of_ble_eq_true rfl) rfl rfl ?_
      refine V.aload_n E dX5_readsPart_73 rfl rfl ?_
      refine V.dup E dX5_readsPart_74 rfl ?_
      refine V.getf (C := RX5) (T := TX5) (N := 17) (ref := "GlassSpillModel") E 0 5 14 (by decide +kernel) rfl rfl (by decide) (by decide +kernel) rfl rfl dX5_readsPart_75 ?_
      refine V.iload_n E dX5_readsPart_78 rfl rfl ?_
      refine V.bipush (v := (-6 : Int32)) E dX5_readsPart_79 (by decide) ?_
      refine V.icmp_ne (tgt := 88) E dX5_readsPart_81 (by decide) (fun q_81 => ?_) (fun q_81 => ?_)
      · refine V.iconst (v := nI (1)) E dX5_readsPart_88 (by decide) ?_
        refine V.iaddN E  dX5_readsPart_89 ?_
        refine V.putf (C := RX5) (T := TX5) (N := 17) (ref := "GlassSpillModel") (ws' := (bl [mdW G a (fla x) hi sl sv r o k t m e w tx cl hl tl (sp + 1) rd])) E 0 5 14 (by decide +kernel) tyX5_ok nmX5 rfl rfl (by decide) (by decide +kernel) rfl rfl rfl rfl (Nat.le_of_ble_eq_true rfl) dX5_readsPart_90 rfl ?_
        refine V.iload_n E dX5_readsPart_93 rfl rfl ?_
        exact hend _ _ _ _ dX5_readsPart_94 (nrI _) ⟨rfl, rfl⟩
      · exact absurd q_81 (pv_6 hp)
  · refine V.aload_n E dX5_readsPart_11 rfl rfl ?_
    refine V.getf (C := RX5) (T := TX5) (N := 17) (ref := "GlassSpillModel") E 0 5 12 (by decide +kernel) rfl rfl (by decide) (by decide +kernel) rfl rfl dX5_readsPart_12 ?_
    refine V.aload_n E dX5_readsPart_15 rfl rfl ?_
    refine V.getf (C := RX5) (T := TX5) (N := 17) (ref := "GlassSpillModel") E 0 5 14 (by decide +kernel) rfl rfl (by decide) (by decide +kernel) rfl rfl dX5_readsPart_16 ?_
    refine V.ialdN (v := nI (tx sp)) E 12 rfl ((by have := ht.1; omega)) (by decide) (rfl) dX5_readsPart_19 ?_
    refine V.goto (tgt := 24) E dX5_readsPart_20 (by decide) ?_
    refine V.topN (b := txc tl tx sp) ((txc_i q_8).symm) ?_
    refine V.istore_n (lv' := [some (.ref (a 0)), some (.int (nI (txc tl tx sp))), none]) E dX5_readsPart_24 rfl (Nat.le_of_ble_eq_true rfl) rfl rfl ?_
    refine V.iload_n E dX5_readsPart_25 rfl rfl ?_
    refine V.i2l E dX5_readsPart_26 rfl ?_
    refine V.ldc2 (v := 48) E (by decide +kernel) dX5_readsPart_27 ?_
    refine V.ldc2 (v := 57) E (by decide +kernel) dX5_readsPart_30 ?_
    refine V.callS E (c_X5_in G ((nI (txc tl tx sp)).toInt64) ((48 : Int64)) ((57 : Int64)) ) (bl [mdW G a (fla x) hi sl sv r o k t m e w tx cl hl tl sp rd]) [] gX5_readsPart_X5_in rfl hd_X5_in ⟨⟨Nat.le_of_ble_eq_true rfl, Nat.le_of_ble_eq_true rfl⟩, Nat.le_of_ble_eq_true rfl, Nat.le_of_ble_eq_true rfl⟩ rfl (Nat.le_of_ble_eq_true rfl) rfl dX5_readsPart_33 (List.Perm.refl _) (kc' := 0) (ks' := 0) rfl rfl (rwI (ws' := (bl [mdW G a (fla x) hi sl sv r o k t m e w tx cl hl tl sp rd])) (List.Perm.refl _) ?_)
    refine V.topN (b := bN (decide (48 ≤ txc tl tx sp ∧ txc tl tx sp ≤ 57))) (congrArg bN (inL_LN (Nat.lt_trans (ht.c sp) (by decide)) (by decide) (by decide))) ?_
    refine V.if_eqB (tgt := 46) E dX5_readsPart_36 (by decide) (fun q_36 => ?_) (fun q_36 => ?_)
    · refine V.iload_n E dX5_readsPart_46 rfl rfl ?_
      refine V.i2l E dX5_readsPart_47 rfl ?_
      refine V.ldc2 (v := 97) E (by decide +kernel) dX5_readsPart_48 ?_
      refine V.ldc2 (v := 102) E (by decide +kernel) dX5_readsPart_51 ?_
      refine V.callS E (c_X5_in G ((nI (txc tl tx sp)).toInt64) ((97 : Int64)) ((102 : Int64)) ) (bl [mdW G a (fla x) hi sl sv r o k t m e w tx cl hl tl sp rd]) [] gX5_readsPart_X5_in rfl hd_X5_in ⟨⟨Nat.le_of_ble_eq_true rfl, Nat.le_of_ble_eq_true rfl⟩, Nat.le_of_ble_eq_true rfl, Nat.le_of_ble_eq_true rfl⟩ rfl (Nat.le_of_ble_eq_true rfl) rfl dX5_readsPart_54 (List.Perm.refl _) (kc' := 0) (ks' := 0) rfl rfl (rwI (ws' := (bl [mdW G a (fla x) hi sl sv r o k t m e w tx cl hl tl sp rd])) (List.Perm.refl _) ?_)
      refine V.topN (b := bN (decide (97 ≤ txc tl tx sp ∧ txc tl tx sp ≤ 102))) (congrArg bN (inL_LN (Nat.lt_trans (ht.c sp) (by decide)) (by decide) (by decide))) ?_
      refine V.if_eqB (tgt := 70) E dX5_readsPart_57 (by decide) (fun q_57 => ?_) (fun q_57 => ?_)
      · exact absurd ((isP_0 q_36 q_57).symm.trans hp) (by decide)
      · refine V.iload_n E dX5_readsPart_60 rfl rfl ?_
        refine V.bipush (v := nI (97)) E dX5_readsPart_61 (by decide) ?_
        refine V.isubN E (by have h9 := of_decide_eq_true q_57; omega) dX5_readsPart_63 ?_
        refine V.bipush (v := nI (10)) E dX5_readsPart_64 (by decide) ?_
        refine V.iaddN E  dX5_readsPart_66 ?_
        refine V.goto (tgt := 72) E dX5_readsPart_67 (by decide) ?_
        refine V.topN (b := pv (txc tl tx sp)) ((by rw [(isP_2 q_36 q_57).2]; have h9 := of_decide_eq_true q_57; omega)) ?_
        refine V.istore_n (lv' := [some (.ref (a 0)), some (.int (nI (txc tl tx sp))), some (.int (nI (pv (txc tl tx sp))))]) E dX5_readsPart_72 rfl (Nat.le_of_ble_eq_true rfl) rfl rfl ?_
        refine V.aload_n E dX5_readsPart_73 rfl rfl ?_
        refine V.dup E dX5_readsPart_74 rfl ?_
        refine V.getf (C := RX5) (T := TX5) (N := 17) (ref := "GlassSpillModel") E 0 5 14 (by decide +kernel) rfl rfl (by decide) (by decide +kernel) rfl rfl dX5_readsPart_75 ?_
        refine V.iload_n E dX5_readsPart_78 rfl rfl ?_
        refine V.bipush (v := (-6 : Int32)) E dX5_readsPart_79 (by decide) ?_
        refine V.icmp_ne (tgt := 88) E dX5_readsPart_81 (by decide) (fun q_81 => ?_) (fun q_81 => ?_)
        · refine V.iconst (v := nI (1)) E dX5_readsPart_88 (by decide) ?_
          refine V.iaddN E  dX5_readsPart_89 ?_
          refine V.putf (C := RX5) (T := TX5) (N := 17) (ref := "GlassSpillModel") (ws' := (bl [mdW G a (fla x) hi sl sv r o k t m e w tx cl hl tl (sp + 1) rd])) E 0 5 14 (by decide +kernel) tyX5_ok nmX5 rfl rfl (by decide) (by decide +kernel) rfl rfl rfl rfl (Nat.le_of_ble_eq_true rfl) dX5_readsPart_90 rfl ?_
          refine V.iload_n E dX5_readsPart_93 rfl rfl ?_
          exact hend _ _ _ _ dX5_readsPart_94 (nrI _) ⟨rfl, rfl⟩
        · exact absurd q_81 (pv_6 hp)
    · refine V.iload_n E dX5_readsPart_39 rfl rfl ?_
      refine V.bipush (v := nI (48)) E dX5_readsPart_40 (by decide) ?_
      refine V.isubN E (by have h9 := of_decide_eq_true q_36; omega) dX5_readsPart_42 ?_
      refine V.goto (tgt := 72) E dX5_readsPart_43 (by decide) ?_
      refine V.topN (b := pv (txc tl tx sp)) ((isP_1 q_36).2.symm) ?_
      refine V.istore_n (lv' := [some (.ref (a 0)), some (.int (nI (txc tl tx sp))), some (.int (nI (pv (txc tl tx sp))))]) E dX5_readsPart_72 rfl (Nat.le_of_ble_eq_true rfl) rfl rfl ?_
      refine V.aload_n E dX5_readsPart_73 rfl rfl ?_
      refine V.dup E dX5_readsPart_74 rfl ?_
      refine V.getf (C := RX5) (T := TX5) (N := 17) (ref := "GlassSpillModel") E 0 5 14 (by decide +kernel) rfl rfl (by decide) (by decide +kernel) rfl rfl dX5_readsPart_75 ?_
      refine V.iload_n E dX5_readsPart_78 rfl rfl ?_
      refine V.bipush (v := (-6 : Int32)) E dX5_readsPart_79 (by decide) ?_
      refine V.icmp_ne (tgt := 88) E dX5_readsPart_81 (by decide) (fun q_81 => ?_) (fun q_81 => ?_)
      · refine V.iconst (v := nI (1)) E dX5_readsPart_88 (by decide) ?_
        refine V.iaddN E  dX5_readsPart_89 ?_
        refine V.putf (C := RX5) (T := TX5) (N := 17) (ref := "GlassSpillModel") (ws' := (bl [mdW G a (fla x) hi sl sv r o k t m e w tx cl hl tl (sp + 1) rd])) E 0 5 14 (by decide +kernel) tyX5_ok nmX5 rfl rfl (by decide) (by decide +kernel) rfl rfl rfl rfl (Nat.le_of_ble_eq_true rfl) dX5_readsPart_90 rfl ?_
        refine V.iload_n E dX5_readsPart_93 rfl rfl ?_
        exact hend _ _ _ _ dX5_readsPart_94 (nrI _) ⟨rfl, rfl⟩
      · exact absurd q_81 (pv_6 hp)
abbrev rm_c_X5_readsPart_f : Room := { frames := 1, cells := 0, slots := 0, locals := 25 }
set_option maxRecDepth 100000 in
set_option maxHeartbeats 8000000 in
theorem c_X5_readsPart_f (G : VC) (a : Nat → Nat) (hi : Nat → Nat) (sl : Nat → Nat) (sv : Nat → Nat) (r : Nat → Nat) (o : Nat → Nat) (k : Nat → Nat) (t : Nat → Nat) (m : Nat → Nat) (e : Nat → Nat) (w : Nat → Nat) (tx : Nat → Nat) (cl : Nat → Int32) (hl : Nat) (tl : Nat) (sp : Nat) (rd : Nat) (x : SC) (ht : TI tl tx) (hs : sp ≤ 48) (hp : isP (txc tl tx sp) = false) : Ctr yX5_readsPart wsX5_readsPart rm_c_X5_readsPart_f G [.ref (a 0)] (bl [mdW G a (fla x) hi sl sv r o k t m e w tx cl hl tl sp rd]) (fun v9_ u9_ => u9_ = (bl [mdW G a (fla x) hi sl sv r o k t m e w tx cl hl tl sp rd]) ∧ v9_ = some (.int ((-6 : Int32)))) := by
  refine Ctr.int (cc := cX5_readsPart) (maxL := 3) (ret := (some .int)) (lv0 := [some (.ref (a 0)), none, none]) (by decide) rfl rfl rfl (Nat.le_of_ble_eq_true rfl) rfl (fun A X E hend => ?_)
  refine V.aload_n E dX5_readsPart_0 rfl rfl ?_
  refine V.getf (C := RX5) (T := TX5) (N := 17) (ref := "GlassSpillModel") E 0 5 14 (by decide +kernel) rfl rfl (by decide) (by decide +kernel) rfl rfl dX5_readsPart_1 ?_
  refine V.aload_n E dX5_readsPart_4 rfl rfl ?_
  refine V.getf (C := RX5) (T := TX5) (N := 17) (ref := "GlassSpillModel") E 0 5 13 (by decide +kernel) rfl rfl (by decide) (by decide +kernel) rfl rfl dX5_readsPart_5 ?_
  refine V.icmp_geN (tgt := 23) E (by omega) (by have := ht.1; omega) dX5_readsPart_8 (by decide) (fun q_8 => ?_) (fun q_8 => ?_)
  · refine V.iconst (v := nI (0)) E dX5_readsPart_23 (by decide) ?_
    refine V.topN (b := txc tl tx sp) ((txc_o (by omega)).symm) ?_
    refine V.istore_n (lv' := [some (.ref (a 0)), some (.int (nI (txc tl tx sp))), none]) E dX5_readsPart_24 rfl (Nat.le_of_ble_eq_true rfl) rfl rfl ?_
    refine V.iload_n E dX5_readsPart_25 rfl rfl ?_
    refine V.i2l E dX5_readsPart_26 rfl ?_
    refine V.ldc2 (v := 48) E (by decide +kernel) dX5_readsPart_27 ?_
    refine V.ldc2 (v := 57) E (by decide +kernel) dX5_readsPart_30 ?_
    refine V.callS E (c_X5_in G ((nI (txc tl tx sp)).toInt64) ((48 : Int64)) ((57 : Int64)) ) (bl [mdW G a (fla x) hi sl sv r o k t m e w tx cl hl tl sp rd]) [] gX5_readsPart_X5_in rfl hd_X5_in ⟨⟨Nat.le_of_ble_eq_true rfl, Nat.le_of_ble_eq_true rfl⟩, Nat.le_of_ble_eq_true rfl, Nat.le_of_ble_eq_true rfl⟩ rfl (Nat.le_of_ble_eq_true rfl) rfl dX5_readsPart_33 (List.Perm.refl _) (kc' := 0) (ks' := 0) rfl rfl (rwI (ws' := (bl [mdW G a (fla x) hi sl sv r o k t m e w tx cl hl tl sp rd])) (List.Perm.refl _) ?_)
    refine V.topN (b := bN (decide (48 ≤ txc tl tx sp ∧ txc tl tx sp ≤ 57))) (congrArg bN (inL_LN (Nat.lt_trans (ht.c sp) (by decide)) (by decide) (by decide))) ?_
    refine V.if_eqB (tgt := 46) E dX5_readsPart_36 (by decide) (fun q_36 => ?_) (fun q_36 => ?_)
    · refine V.iload_n E dX5_readsPart_46 rfl rfl ?_
      refine V.i2l E dX5_readsPart_47 rfl ?_
      refine V.ldc2 (v := 97) E (by decide +kernel) dX5_readsPart_48 ?_
      refine V.ldc2 (v := 102) E (by decide +kernel) dX5_readsPart_51 ?_
      refine V.callS E (c_X5_in G ((nI (txc tl tx sp)).toInt64) ((97 : Int64)) ((102 : Int64)) ) (bl [mdW G a (fla x) hi sl sv r o k t m e w tx cl hl tl sp rd]) [] gX5_readsPart_X5_in rfl hd_X5_in ⟨⟨Nat.le_of_ble_eq_true rfl, Nat.le_of_ble_eq_true rfl⟩, Nat.le_of_ble_eq_true rfl, Nat.le_of_ble_eq_true rfl⟩ rfl (Nat.le_of_ble_eq_true rfl) rfl dX5_readsPart_54 (List.Perm.refl _) (kc' := 0) (ks' := 0) rfl rfl (rwI (ws' := (bl [mdW G a (fla x) hi sl sv r o k t m e w tx cl hl tl sp rd])) (List.Perm.refl _) ?_)
      refine V.topN (b := bN (decide (97 ≤ txc tl tx sp ∧ txc tl tx sp ≤ 102))) (congrArg bN (inL_LN (Nat.lt_trans (ht.c sp) (by decide)) (by decide) (by decide))) ?_
      refine V.if_eqB (tgt := 70) E dX5_readsPart_57 (by decide) (fun q_57 => ?_) (fun q_57 => ?_)
      · refine V.bipush (v := (-6 : Int32)) E dX5_readsPart_70 (by decide) ?_
        refine V.istore_n (lv' := [some (.ref (a 0)), some (.int (nI (txc tl tx sp))), some (.int ((-6 : Int32)))]) E dX5_readsPart_72 rfl (Nat.le_of_ble_eq_true rfl) rfl rfl ?_
        refine V.aload_n E dX5_readsPart_73 rfl rfl ?_
        refine V.dup E dX5_readsPart_74 rfl ?_
        refine V.getf (C := RX5) (T := TX5) (N := 17) (ref := "GlassSpillModel") E 0 5 14 (by decide +kernel) rfl rfl (by decide) (by decide +kernel) rfl rfl dX5_readsPart_75 ?_
        refine V.iload_n E dX5_readsPart_78 rfl rfl ?_
        refine V.bipush (v := (-6 : Int32)) E dX5_readsPart_79 (by decide) ?_
        refine V.icmp_ne (tgt := 88) E dX5_readsPart_81 (by decide) (fun q_81 => ?_) (fun q_81 => ?_)
        · exact absurd rfl q_81
        · refine V.iconst (v := nI (0)) E dX5_readsPart_84 (by decide) ?_
          refine V.goto (tgt := 89) E dX5_readsPart_85 (by decide) ?_
          refine V.iaddN E  dX5_readsPart_89 ?_
          refine V.putf (C := RX5) (T := TX5) (N := 17) (ref := "GlassSpillModel") (ws' := (bl [mdW G a (fla x) hi sl sv r o k t m e w tx cl hl tl (sp + 0) rd])) E 0 5 14 (by decide +kernel) tyX5_ok nmX5 rfl rfl (by decide) (by decide +kernel) rfl rfl rfl rfl (Nat.le_of_ble_eq_true rfl) dX5_readsPart_90 rfl ?_
          refine V.iload_n E dX5_readsPart_93 rfl rfl ?_
          exact hend _ _ _ _ dX5_readsPart_94 (nrI _) ⟨rfl, rfl⟩
      · exact absurd ((isP_2 q_36 q_57).1.symm.trans hp) (by decide)
    · exact absurd ((isP_1 q_36).1.symm.trans hp) (by decide)
  · refine V.aload_n E dX5_readsPart_11 rfl rfl ?_
    refine V.getf (C := RX5) (T := TX5) (N := 17) (ref := "GlassSpillModel") E 0 5 12 (by decide +kernel) rfl rfl (by decide) (by decide +kernel) rfl rfl dX5_readsPart_12 ?_
    refine V.aload_n E dX5_readsPart_15 rfl rfl ?_
    refine V.getf (C := RX5) (T := TX5) (N := 17) (ref := "GlassSpillModel") E 0 5 14 (by decide +kernel) rfl rfl (by decide) (by decide +kernel) rfl rfl dX5_readsPart_16 ?_
    refine V.ialdN (v := nI (tx sp)) E 12 rfl ((by have := ht.1; omega)) (by decide) (rfl) dX5_readsPart_19 ?_
    refine V.goto (tgt := 24) E dX5_readsPart_20 (by decide) ?_
    refine V.topN (b := txc tl tx sp) ((txc_i q_8).symm) ?_
    refine V.istore_n (lv' := [some (.ref (a 0)), some (.int (nI (txc tl tx sp))), none]) E dX5_readsPart_24 rfl (Nat.le_of_ble_eq_true rfl) rfl rfl ?_
    refine V.iload_n E dX5_readsPart_25 rfl rfl ?_
    refine V.i2l E dX5_readsPart_26 rfl ?_
    refine V.ldc2 (v := 48) E (by decide +kernel) dX5_readsPart_27 ?_
    refine V.ldc2 (v := 57) E (by decide +kernel) dX5_readsPart_30 ?_
    refine V.callS E (c_X5_in G ((nI (txc tl tx sp)).toInt64) ((48 : Int64)) ((57 : Int64)) ) (bl [mdW G a (fla x) hi sl sv r o k t m e w tx cl hl tl sp rd]) [] gX5_readsPart_X5_in rfl hd_X5_in ⟨⟨Nat.le_of_ble_eq_true rfl, Nat.le_of_ble_eq_true rfl⟩, Nat.le_of_ble_eq_true rfl, Nat.le_of_ble_eq_true rfl⟩ rfl (Nat.le_of_ble_eq_true rfl) rfl dX5_readsPart_33 (List.Perm.refl _) (kc' := 0) (ks' := 0) rfl rfl (rwI (ws' := (bl [mdW G a (fla x) hi sl sv r o k t m e w tx cl hl tl sp rd])) (List.Perm.refl _) ?_)
    refine V.topN (b := bN (decide (48 ≤ txc tl tx sp ∧ txc tl tx sp ≤ 57))) (congrArg bN (inL_LN (Nat.lt_trans (ht.c sp) (by decide)) (by decide) (by decide))) ?_
    refine V.if_eqB (tgt := 46) E dX5_readsPart_36 (by decide) (fun q_36 => ?_) (fun q_36 => ?_)
    · refine V.iload_n E dX5_readsPart_46 rfl rfl ?_
      refine V.i2l E dX5_readsPart_47 rfl ?_
      refine V.ldc2 (v := 97) E (by decide +kernel) dX5_readsPart_48 ?_
      refine V.ldc2 (v := 102) E (by decide +kernel) dX5_readsPart_51 ?_
      refine V.callS E (c_X5_in G ((nI (txc tl tx sp)).toInt64) ((97 : Int64)) ((102 : Int64)) ) (bl [mdW G a (fla x) hi sl sv r o k t m e w tx cl hl tl sp rd]) [] gX5_readsPart_X5_in rfl hd_X5_in ⟨⟨Nat.le_of_ble_eq_true rfl, Nat.le_of_ble_eq_true rfl⟩, Nat.le_of_ble_eq_true rfl, Nat.le_of_ble_eq_true rfl⟩ rfl (Nat.le_of_ble_eq_true rfl) rfl dX5_readsPart_54 (List.Perm.refl _) (kc' := 0) (ks' := 0) rfl rfl (rwI (ws' := (bl [mdW G a (fla x) hi sl sv r o k t m e w tx cl hl tl sp rd])) (List.Perm.refl _) ?_)
      refine V.topN (b := bN (decide (97 ≤ txc tl tx sp ∧ txc tl tx sp ≤ 102))) (congrArg bN (inL_LN (Nat.lt_trans (ht.c sp) (by decide)) (by decide) (by decide))) ?_
      refine V.if_eqB (tgt := 70) E dX5_readsPart_57 (by decide) (fun q_57 => ?_) (fun q_57 => ?_)
      · refine V.bipush (v := (-6 : Int32)) E dX5_readsPart_70 (by decide) ?_
        refine V.istore_n (lv' := [some (.ref (a 0)), some (.int (nI (txc tl tx sp))), some (.int ((-6 : Int32)))]) E dX5_readsPart_72 rfl (Nat.le_of_ble_eq_true rfl) rfl rfl ?_
        refine V.aload_n E dX5_readsPart_73 rfl rfl ?_
        refine V.dup E dX5_readsPart_74 rfl ?_
        refine V.getf (C := RX5) (T := TX5) (N := 17) (ref := "GlassSpillModel") E 0 5 14 (by decide +kernel) rfl rfl (by decide) (by decide +kernel) rfl rfl dX5_readsPart_75 ?_
        refine V.iload_n E dX5_readsPart_78 rfl rfl ?_
        refine V.bipush (v := (-6 : Int32)) E dX5_readsPart_79 (by decide) ?_
        refine V.icmp_ne (tgt := 88) E dX5_readsPart_81 (by decide) (fun q_81 => ?_) (fun q_81 => ?_)
        · exact absurd rfl q_81
        · refine V.iconst (v := nI (0)) E dX5_readsPart_84 (by decide) ?_
          refine V.goto (tgt := 89) E dX5_readsPart_85 (by decide) ?_
          refine V.iaddN E  dX5_readsPart_89 ?_
          refine V.putf (C := RX5) (T := TX5) (N := 17) (ref := "GlassSpillModel") (ws' := (bl [mdW G a (fla x) hi sl sv r o k t m e w tx cl hl tl (sp + 0) rd])) E 0 5 14 (by decide +kernel) tyX5_ok nmX5 rfl rfl (by decide) (by decide +kernel) rfl rfl rfl rfl (Nat.le_of_ble_eq_true rfl) dX5_readsPart_90 rfl ?_
          refine V.iload_n E dX5_readsPart_93 rfl rfl ?_
          exact hend _ _ _ _ dX5_readsPart_94 (nrI _) ⟨rfl, rfl⟩
      · exact absurd ((isP_2 q_36 q_57).1.symm.trans hp) (by decide)
    · exact absurd ((isP_1 q_36).1.symm.trans hp) (by decide)
theorem upd_uu (f : Nat → Int32) (i : Nat) (x y : Int32) (j : Nat) : upd (upd f i x) i y j = upd f i y j := by
  unfold upd
  by_cases h : j = i
  · rw [if_pos h, if_pos h]
  · rw [if_neg h, if_neg h, if_neg h]
def cv3 (tl : Nat) (tx : Nat → Nat) (s : Nat) : Nat := 16 * (16 * pv (txc tl tx s) + pv (txc tl tx (s + 1))) + pv (txc tl tx (s + 1 + 1))
theorem dotP {tl s : Nat} {tx : Nat → Nat} (h : tx s = 46) : isP (txc tl tx s) = false := by
  unfold txc
  split
  · rw [h]; decide
  · decide
theorem rcC (tl : Nat) (tx : Nat → Nat) (s : Nat) : (s < tl ∧ tx s = 46) ∨ (isP (txc tl tx s) = true ∧ isP (txc tl tx (s + 1)) = true ∧ isP (txc tl tx (s + 1 + 1)) = true) ∨ (¬ (s < tl ∧ tx s = 46) ∧ isP (txc tl tx s) = false) ∨ (isP (txc tl tx s) = true ∧ isP (txc tl tx (s + 1)) = false) ∨ (isP (txc tl tx s) = true ∧ isP (txc tl tx (s + 1)) = true ∧ isP (txc tl tx (s + 1 + 1)) = false) := by
  by_cases h : s < tl ∧ tx s = 46
  · exact .inl h
  · cases h0 : isP (txc tl tx s) <;> cases h1 : isP (txc tl tx (s + 1)) <;> cases h2 : isP (txc tl tx (s + 1 + 1)) <;> simp [h]
abbrev rm_c_X5_readsColour_d : Room := { frames := 0, cells := 0, slots := 0, locals := 0 }
theorem hd_X5_readsColour : yX5_readsColour.cls ≠ "java/lang/invoke/MethodHandle" ∧ yX5_readsColour.cls ≠ "java/lang/invoke/VarHandle" ∧ (parseMethodDescriptor yX5_readsColour.desc).map (fun d => d.parameters.length) = some 0 := by decide +kernel
set_option maxRecDepth 100000 in
set_option maxHeartbeats 8000000 in
theorem c_X5_readsColour_d (G : VC) (a : Nat → Nat) (hi : Nat → Nat) (sl : Nat → Nat) (sv : Nat → Nat) (r : Nat → Nat) (o : Nat → Nat) (k : Nat → Nat) (t : Nat → Nat) (m : Nat → Nat) (e : Nat → Nat) (w : Nat → Nat) (tx : Nat → Nat) (cl : Nat → Int32) (hl : Nat) (tl : Nat) (sp : Nat) (rd : Nat) (x : SC) (ht : TI tl tx) (hs : sp ≤ 48) (hr : rd < 8) (hd : sp < tl ∧ tx sp = 46) : Ctr yX5_readsColour wsX5_readsColour rm_c_X5_readsColour_d G [.ref (a 0)] (bl [mdW G a (fla x) hi sl sv r o k t m e w tx cl hl tl sp rd]) (fun v9_ u9_ => u9_ = (bl [mdW G a (fla x) hi sl sv r o k t m e w tx (upd cl rd (-1)) hl tl (sp + 1) (rd + 1)]) ∧ v9_ = some (.int (nI (bN true)))) := by
  refine Ctr.int (cc := cX5_readsColour) (maxL := 4) (ret := (some .boolean)) (lv0 := [some (.ref (a 0)), none, none, none]) (by decide) rfl rfl rfl (Nat.le_of_ble_eq_true rfl) rfl (fun A X E hend => ?_)
  refine V.aload_n E dX5_readsColour_0 rfl rfl ?_
  refine V.getf (C := RX5) (T := TX5) (N := 17) (ref := "GlassSpillModel") E 0 5 15 (by decide +kernel) rfl rfl (by decide) (by decide +kernel) rfl rfl dX5_readsColour_1 ?_
  refine V.aload_n E dX5_readsColour_4 rfl rfl ?_
  refine V.getf (C := RX5) (T := TX5) (N := 17) (ref := "GlassSpillModel") E 0 5 16 (by decide +kernel) rfl rfl (by decide) (by decide +kernel) rfl rfl dX5_readsColour_5 ?_
  refine V.iconst (v := (-1 : Int32)) E dX5_readsColour_8 (by decide) ?_
  refine V.iastN (f' := upd cl rd (-1)) (ws' := (bl [mdW G a (fla x) hi sl sv r o k t m e w tx (upd cl rd (-1)) hl tl sp rd])) E 13 rfl (by omega) (by decide) dX5_readsColour_9 (fun j _ => rfl) rfl ?_
  refine V.aload_n E dX5_readsColour_10 rfl rfl ?_
  refine V.getf (C := RX5) (T := TX5) (N := 17) (ref := "GlassSpillModel") E 0 5 14 (by decide +kernel) rfl rfl (by decide) (by decide +kernel) rfl rfl dX5_readsColour_11 ?_
  refine V.aload_n E dX5_readsColour_14 rfl rfl ?_
  refine V.getf (C := RX5) (T := TX5) (N := 17) (ref := "GlassSpillModel") E 0 5 13 (by decide +kernel) rfl rfl (by decide) (by decide +kernel) rfl rfl dX5_readsColour_15 ?_
  refine V.icmp_geN (tgt := 57) E (by omega) (by have := ht.1; omega) dX5_readsColour_18 (by decide) (fun q_18 => ?_) (fun q_18 => ?_)
  · exact absurd hd.1 (by omega)
  · refine V.aload_n E dX5_readsColour_21 rfl rfl ?_
    refine V.getf (C := RX5) (T := TX5) (N := 17) (ref := "GlassSpillModel") E 0 5 12 (by decide +kernel) rfl rfl (by decide) (by decide +kernel) rfl rfl dX5_readsColour_22 ?_
    refine V.aload_n E dX5_readsColour_25 rfl rfl ?_
    refine V.getf (C := RX5) (T := TX5) (N := 17) (ref := "GlassSpillModel") E 0 5 14 (by decide +kernel) rfl rfl (by decide) (by decide +kernel) rfl rfl dX5_readsColour_26 ?_
    refine V.ialdN (v := nI (tx sp)) E 12 rfl ((by have := ht.1; omega)) (by decide) (rfl) dX5_readsColour_29 ?_
    refine V.bipush (v := nI (46)) E dX5_readsColour_30 (by decide) ?_
    refine V.icmp_neN (tgt := 57) E (Nat.lt_trans (ht.2 sp (by have := ht.1; omega)) (by decide)) (by decide) dX5_readsColour_32 (by decide) (fun q_32 => ?_) (fun q_32 => ?_)
    · exact absurd hd.2 q_32
    · refine V.aload_n E dX5_readsColour_35 rfl rfl ?_
      refine V.dup E dX5_readsColour_36 rfl ?_
      refine V.getf (C := RX5) (T := TX5) (N := 17) (ref := "GlassSpillModel") E 0 5 14 (by decide +kernel) rfl rfl (by decide) (by decide +kernel) rfl rfl dX5_readsColour_37 ?_
      refine V.iconst (v := nI (1)) E dX5_readsColour_40 (by decide) ?_
      refine V.iaddN E  dX5_readsColour_41 ?_
      refine V.putf (C := RX5) (T := TX5) (N := 17) (ref := "GlassSpillModel") (ws' := (bl [mdW G a (fla x) hi sl sv r o k t m e w tx (upd cl rd (-1)) hl tl (sp + 1) rd])) E 0 5 14 (by decide +kernel) tyX5_ok nmX5 rfl rfl (by decide) (by decide +kernel) rfl rfl rfl rfl (Nat.le_of_ble_eq_true rfl) dX5_readsColour_42 rfl ?_
      refine V.aload_n E dX5_readsColour_45 rfl rfl ?_
      refine V.dup E dX5_readsColour_46 rfl ?_
      refine V.getf (C := RX5) (T := TX5) (N := 17) (ref := "GlassSpillModel") E 0 5 16 (by decide +kernel) rfl rfl (by decide) (by decide +kernel) rfl rfl dX5_readsColour_47 ?_
      refine V.iconst (v := nI (1)) E dX5_readsColour_50 (by decide) ?_
      refine V.iaddN E  dX5_readsColour_51 ?_
      refine V.putf (C := RX5) (T := TX5) (N := 17) (ref := "GlassSpillModel") (ws' := (bl [mdW G a (fla x) hi sl sv r o k t m e w tx (upd cl rd (-1)) hl tl (sp + 1) (rd + 1)])) E 0 5 16 (by decide +kernel) tyX5_ok nmX5 rfl rfl (by decide) (by decide +kernel) rfl rfl rfl rfl (Nat.le_of_ble_eq_true rfl) dX5_readsColour_52 rfl ?_
      refine V.iconst (v := nI (1)) E dX5_readsColour_55 (by decide) ?_
      refine V.topN (b := bN true) (rfl) ?_
      exact hend _ _ _ _ dX5_readsColour_56 (nrB _) ⟨rfl, rfl⟩
abbrev rm_c_X5_readsColour_t : Room := { frames := 2, cells := 0, slots := 0, locals := 47 }
set_option maxRecDepth 100000 in
set_option maxHeartbeats 8000000 in
theorem c_X5_readsColour_t (G : VC) (a : Nat → Nat) (hi : Nat → Nat) (sl : Nat → Nat) (sv : Nat → Nat) (r : Nat → Nat) (o : Nat → Nat) (k : Nat → Nat) (t : Nat → Nat) (m : Nat → Nat) (e : Nat → Nat) (w : Nat → Nat) (tx : Nat → Nat) (cl : Nat → Int32) (hl : Nat) (tl : Nat) (sp : Nat) (rd : Nat) (x : SC) (ht : TI tl tx) (hs : sp ≤ 48) (hr : rd < 8) (h0 : isP (txc tl tx (sp)) = true) (h1 : isP (txc tl tx (sp + 1)) = true) (h2 : isP (txc tl tx (sp + 1 + 1)) = true) : Ctr yX5_readsColour wsX5_readsColour rm_c_X5_readsColour_t G [.ref (a 0)] (bl [mdW G a (fla x) hi sl sv r o k t m e w tx cl hl tl sp rd]) (fun v9_ u9_ => u9_ = (bl [mdW G a (fla x) hi sl sv r o k t m e w tx (upd cl rd (nI (cv3 tl tx sp))) hl tl (sp + 1 + 1 + 1) (rd + 1)]) ∧ v9_ = some (.int (nI (bN true)))) := by
  have hd : ¬ (sp < tl ∧ tx sp = 46) := fun e => absurd ((dotP e.2).symm.trans h0) (by decide)
  have e0 := isP_in h0
  have e1 := isP_in h1
  have e2 := isP_in h2
  refine Ctr.int (cc := cX5_readsColour) (maxL := 4) (ret := (some .boolean)) (lv0 := [some (.ref (a 0)), none, none, none]) (by decide) rfl rfl rfl (Nat.le_of_ble_eq_true rfl) rfl (fun A X E hend => ?_)
  refine V.aload_n E dX5_readsColour_0 rfl rfl ?_
  refine V.getf (C := RX5) (T := TX5) (N := 17) (ref := "GlassSpillModel") E 0 5 15 (by decide +kernel) rfl rfl (by decide) (by decide +kernel) rfl rfl dX5_readsColour_1 ?_
  refine V.aload_n E dX5_readsColour_4 rfl rfl ?_
  refine V.getf (C := RX5) (T := TX5) (N := 17) (ref := "GlassSpillModel") E 0 5 16 (by decide +kernel) rfl rfl (by decide) (by decide +kernel) rfl rfl dX5_readsColour_5 ?_
  refine V.iconst (v := (-1 : Int32)) E dX5_readsColour_8 (by decide) ?_
  refine V.iastN (f' := upd cl rd (-1)) (ws' := (bl [mdW G a (fla x) hi sl sv r o k t m e w tx (upd cl rd (-1)) hl tl sp rd])) E 13 rfl (by omega) (by decide) dX5_readsColour_9 (fun j _ => rfl) rfl ?_
  refine V.aload_n E dX5_readsColour_10 rfl rfl ?_
  refine V.getf (C := RX5) (T := TX5) (N := 17) (ref := "GlassSpillModel") E 0 5 14 (by decide +kernel) rfl rfl (by decide) (by decide +kernel) rfl rfl dX5_readsColour_11 ?_
  refine V.aload_n E dX5_readsColour_14 rfl rfl ?_
  refine V.getf (C := RX5) (T := TX5) (N := 17) (ref := "GlassSpillModel") E 0 5 13 (by decide +kernel) rfl rfl (by decide) (by decide +kernel) rfl rfl dX5_readsColour_15 ?_
  refine V.icmp_geN (tgt := 57) E (by omega) (by have := ht.1; omega) dX5_readsColour_18 (by decide) (fun q_18 => ?_) (fun q_18 => ?_)
  · refine V.iconst (v := nI (0)) E dX5_readsColour_57 (by decide) ?_
    refine V.istore_n (lv' := [some (.ref (a 0)), some (.int (nI (0))), none, none]) E dX5_readsColour_58 rfl (Nat.le_of_ble_eq_true rfl) rfl rfl ?_
    refine V.iconst (v := nI (0)) E dX5_readsColour_59 (by decide) ?_
    refine V.istore_n (lv' := [some (.ref (a 0)), some (.int (nI (0))), some (.int (nI (0))), none]) E dX5_readsColour_60 rfl (Nat.le_of_ble_eq_true rfl) rfl rfl ?_
    refine V.iload_n E dX5_readsColour_61 rfl rfl ?_
    refine V.iconst (v := nI (3)) E dX5_readsColour_62 (by decide) ?_
    refine V.icmp_geN (tgt := 92) E (by omega) (by omega) dX5_readsColour_63 (by decide) (fun q_63 => absurd q_63 (by decide)) (fun q_63 => ?_)
    refine V.aload_n E dX5_readsColour_66 rfl rfl ?_
    refine V.callV (C := RX5) E (c_X5_readsPart_t G a hi sl sv r o k t m e w tx (upd cl rd (-1)) hl tl sp rd x (ht) (by have := ht.1; omega) (h0)) (bl []) [] 0 5 rfl rfl rfl gX5_readsColour_X5_readsPart rfl ⟨rfl, hd_X5_readsPart⟩ ⟨⟨Nat.le_of_ble_eq_true rfl, Nat.le_of_ble_eq_true rfl⟩, Nat.le_of_ble_eq_true rfl, Nat.le_of_ble_eq_true rfl⟩ rfl (Nat.le_of_ble_eq_true rfl) rfl dX5_readsColour_67 (pBs (n := 1) [mdW G a (fla x) hi sl sv r o k t m e w tx (upd cl rd (-1)) hl tl sp rd] [0] [] rfl (by decide)) (kc' := 0) (ks' := 0) rfl rfl (rwI (ws' := (bl [mdW G a (fla x) hi sl sv r o k t m e w tx (upd cl rd (-1)) hl tl (sp + 1) rd])) (pBs (n := 1) [mdW G a (fla x) hi sl sv r o k t m e w tx (upd cl rd (-1)) hl tl (sp + 1) rd] [0] [] rfl (by decide)).symm ?_)
    refine V.istore_n (lv' := [some (.ref (a 0)), some (.int (nI (0))), some (.int (nI (0))), some (.int (nI (pv (txc tl tx sp))))]) E dX5_readsColour_70 rfl (Nat.le_of_ble_eq_true rfl) rfl rfl ?_
    refine V.iload_n E dX5_readsColour_71 rfl rfl ?_
    refine V.bipush (v := (-6 : Int32)) E dX5_readsColour_72 (by decide) ?_
    refine V.icmp_ne (tgt := 79) E dX5_readsColour_74 (by decide) (fun q_74 => ?_) (fun q_74 => ?_)
    · refine V.bipush (v := nI (16)) E dX5_readsColour_79 (by decide) ?_
      refine V.iload_n E dX5_readsColour_81 rfl rfl ?_
      refine V.imulN E  dX5_readsColour_82 ?_
      refine V.iload_n E dX5_readsColour_83 rfl rfl ?_
      refine V.iaddN E  dX5_readsColour_84 ?_
      refine V.istore_n (lv' := [some (.ref (a 0)), some (.int (nI (0 + (pv (txc tl tx sp))))), some (.int (nI (0))), some (.int (nI (pv (txc tl tx sp))))]) E dX5_readsColour_85 rfl (Nat.le_of_ble_eq_true rfl) rfl rfl ?_
      refine V.iincN (lv' := [some (.ref (a 0)), some (.int (nI (0 + (pv (txc tl tx sp))))), some (.int (nI (1))), some (.int (nI (pv (txc tl tx sp))))]) E dX5_readsColour_86 rfl (Nat.le_of_ble_eq_true rfl) rfl rfl ?_
      refine V.goto (tgt := 61) E dX5_readsColour_89 (by decide) ?_
      refine V.iload_n E dX5_readsColour_61 rfl rfl ?_
      refine V.iconst (v := nI (3)) E dX5_readsColour_62 (by decide) ?_
      refine V.icmp_geN (tgt := 92) E (by omega) (by omega) dX5_readsColour_63 (by decide) (fun q_63 => absurd q_63 (by decide)) (fun q_63 => ?_)
      refine V.aload_n E dX5_readsColour_66 rfl rfl ?_
      refine V.callV (C := RX5) E (c_X5_readsPart_t G a hi sl sv r o k t m e w tx (upd cl rd (-1)) hl tl (sp + 1) rd x (ht) (by have := ht.1; omega) (h1)) (bl []) [] 0 5 rfl rfl rfl gX5_readsColour_X5_readsPart rfl ⟨rfl, hd_X5_readsPart⟩ ⟨⟨Nat.le_of_ble_eq_true rfl, Nat.le_of_ble_eq_true rfl⟩, Nat.le_of_ble_eq_true rfl, Nat.le_of_ble_eq_true rfl⟩ rfl (Nat.le_of_ble_eq_true rfl) rfl dX5_readsColour_67 (pBs (n := 1) [mdW G a (fla x) hi sl sv r o k t m e w tx (upd cl rd (-1)) hl tl (sp + 1) rd] [0] [] rfl (by decide)) (kc' := 0) (ks' := 0) rfl rfl (rwI (ws' := (bl [mdW G a (fla x) hi sl sv r o k t m e w tx (upd cl rd (-1)) hl tl ((sp + 1) + 1) rd])) (pBs (n := 1) [mdW G a (fla x) hi sl sv r o k t m e w tx (upd cl rd (-1)) hl tl ((sp + 1) + 1) rd] [0] [] rfl (by decide)).symm ?_)
      refine V.istore_n (lv' := [some (.ref (a 0)), some (.int (nI (0 + (pv (txc tl tx sp))))), some (.int (nI (1))), some (.int (nI (pv (txc tl tx (sp + 1)))))]) E dX5_readsColour_70 rfl (Nat.le_of_ble_eq_true rfl) rfl rfl ?_
      refine V.iload_n E dX5_readsColour_71 rfl rfl ?_
      refine V.bipush (v := (-6 : Int32)) E dX5_readsColour_72 (by decide) ?_
      refine V.icmp_ne (tgt := 79) E dX5_readsColour_74 (by decide) (fun q_74 => ?_) (fun q_74 => ?_)
      · refine V.bipush (v := nI (16)) E dX5_readsColour_79 (by decide) ?_
        refine V.iload_n E dX5_readsColour_81 rfl rfl ?_
        refine V.imulN E  dX5_readsColour_82 ?_
        refine V.iload_n E dX5_readsColour_83 rfl rfl ?_
        refine V.iaddN E  dX5_readsColour_84 ?_
        refine V.istore_n (lv' := [some (.ref (a 0)), some (.int (nI ((16 * (0 + (pv (txc tl tx sp)))) + (pv (txc tl tx (sp + 1)))))), some (.int (nI (1))), some (.int (nI (pv (txc tl tx (sp + 1)))))]) E dX5_readsColour_85 rfl (Nat.le_of_ble_eq_true rfl) rfl rfl ?_
        refine V.iincN (lv' := [some (.ref (a 0)), some (.int (nI ((16 * (0 + (pv (txc tl tx sp)))) + (pv (txc tl tx (sp + 1)))))), some (.int (nI (2))), some (.int (nI (pv (txc tl tx (sp + 1)))))]) E dX5_readsColour_86 rfl (Nat.le_of_ble_eq_true rfl) rfl rfl ?_
        refine V.goto (tgt := 61) E dX5_readsColour_89 (by decide) ?_
        refine V.iload_n E dX5_readsColour_61 rfl rfl ?_
        refine V.iconst (v := nI (3)) E dX5_readsColour_62 (by decide) ?_
        refine V.icmp_geN (tgt := 92) E (by omega) (by omega) dX5_readsColour_63 (by decide) (fun q_63 => absurd q_63 (by decide)) (fun q_63 => ?_)
        refine V.aload_n E dX5_readsColour_66 rfl rfl ?_
        refine V.callV (C := RX5) E (c_X5_readsPart_t G a hi sl sv r o k t m e w tx (upd cl rd (-1)) hl tl ((sp + 1) + 1) rd x (ht) (by have := ht.1; omega) (h2)) (bl []) [] 0 5 rfl rfl rfl gX5_readsColour_X5_readsPart rfl ⟨rfl, hd_X5_readsPart⟩ ⟨⟨Nat.le_of_ble_eq_true rfl, Nat.le_of_ble_eq_true rfl⟩, Nat.le_of_ble_eq_true rfl, Nat.le_of_ble_eq_true rfl⟩ rfl (Nat.le_of_ble_eq_true rfl) rfl dX5_readsColour_67 (pBs (n := 1) [mdW G a (fla x) hi sl sv r o k t m e w tx (upd cl rd (-1)) hl tl ((sp + 1) + 1) rd] [0] [] rfl (by decide)) (kc' := 0) (ks' := 0) rfl rfl (rwI (ws' := (bl [mdW G a (fla x) hi sl sv r o k t m e w tx (upd cl rd (-1)) hl tl (((sp + 1) + 1) + 1) rd])) (pBs (n := 1) [mdW G a (fla x) hi sl sv r o k t m e w tx (upd cl rd (-1)) hl tl (((sp + 1) + 1) + 1) rd] [0] [] rfl (by decide)).symm ?_)
        refine V.istore_n (lv' := [some (.ref (a 0)), some (.int (nI ((16 * (0 + (pv (txc tl tx sp)))) + (pv (txc tl tx (sp + 1)))))), some (.int (nI (2))), some (.int (nI (pv (txc tl tx ((sp + 1) + 1)))))]) E dX5_readsColour_70 rfl (Nat.le_of_ble_eq_true rfl) rfl rfl ?_
        refine V.iload_n E dX5_readsColour_71 rfl rfl ?_
        refine V.bipush (v := (-6 : Int32)) E dX5_readsColour_72 (by decide) ?_
        refine V.icmp_ne (tgt := 79) E dX5_readsColour_74 (by decide) (fun q_74 => ?_) (fun q_74 => ?_)
        · refine V.bipush (v := nI (16)) E dX5_readsColour_79 (by decide) ?_
          refine V.iload_n E dX5_readsColour_81 rfl rfl ?_
          refine V.imulN E  dX5_readsColour_82 ?_
          refine V.iload_n E dX5_readsColour_83 rfl rfl ?_
          refine V.iaddN E  dX5_readsColour_84 ?_
          refine V.istore_n (lv' := [some (.ref (a 0)), some (.int (nI ((16 * ((16 * (0 + (pv (txc tl tx sp)))) + (pv (txc tl tx (sp + 1))))) + (pv (txc tl tx ((sp + 1) + 1)))))), some (.int (nI (2))), some (.int (nI (pv (txc tl tx ((sp + 1) + 1)))))]) E dX5_readsColour_85 rfl (Nat.le_of_ble_eq_true rfl) rfl rfl ?_
          refine V.iincN (lv' := [some (.ref (a 0)), some (.int (nI ((16 * ((16 * (0 + (pv (txc tl tx sp)))) + (pv (txc tl tx (sp + 1))))) + (pv (txc tl tx ((sp + 1) + 1)))))), some (.int (nI (3))), some (.int (nI (pv (txc tl tx ((sp + 1) + 1)))))]) E dX5_readsColour_86 rfl (Nat.le_of_ble_eq_true rfl) rfl rfl ?_
          refine V.goto (tgt := 61) E dX5_readsColour_89 (by decide) ?_
          refine V.iload_n E dX5_readsColour_61 rfl rfl ?_
          refine V.iconst (v := nI (3)) E dX5_readsColour_62 (by decide) ?_
          refine V.icmp_geN (tgt := 92) E (by omega) (by omega) dX5_readsColour_63 (by decide) (fun q_63 => ?_) (fun q_63 => absurd q_63 (by decide))
          refine V.aload_n E dX5_readsColour_92 rfl rfl ?_
          refine V.getf (C := RX5) (T := TX5) (N := 17) (ref := "GlassSpillModel") E 0 5 15 (by decide +kernel) rfl rfl (by decide) (by decide +kernel) rfl rfl dX5_readsColour_93 ?_
          refine V.aload_n E dX5_readsColour_96 rfl rfl ?_
          refine V.getf (C := RX5) (T := TX5) (N := 17) (ref := "GlassSpillModel") E 0 5 16 (by decide +kernel) rfl rfl (by decide) (by decide +kernel) rfl rfl dX5_readsColour_97 ?_
          refine V.iload_n E dX5_readsColour_100 rfl rfl ?_
          refine V.iastN (f' := upd cl rd (nI (cv3 tl tx sp))) (ws' := (bl [mdW G a (fla x) hi sl sv r o k t m e w tx (upd cl rd (nI (cv3 tl tx sp))) hl tl (((sp + 1) + 1) + 1) rd])) E 13 rfl (by omega) (by decide) dX5_readsColour_101 (fun j _ => (upd_uu cl rd _ _ j).trans (by rw [show (16 * ((16 * (0 + (pv (txc tl tx sp)))) + (pv (txc tl tx (sp + 1))))) + (pv (txc tl tx ((sp + 1) + 1))) = cv3 tl tx sp by unfold cv3; omega])) rfl ?_
          refine V.aload_n E dX5_readsColour_102 rfl rfl ?_
          refine V.dup E dX5_readsColour_103 rfl ?_
          refine V.getf (C := RX5) (T := TX5) (N := 17) (ref := "GlassSpillModel") E 0 5 16 (by decide +kernel) rfl rfl (by decide) (by decide +kernel) rfl rfl dX5_readsColour_104 ?_
          refine V.iconst (v := nI (1)) E dX5_readsColour_107 (by decide) ?_
          refine V.iaddN E  dX5_readsColour_108 ?_
          refine V.putf (C := RX5) (T := TX5) (N := 17) (ref := "GlassSpillModel") (ws' := (bl [mdW G a (fla x) hi sl sv r o k t m e w tx (upd cl rd (nI (cv3 tl tx sp))) hl tl (((sp + 1) + 1) + 1) (rd + 1)])) E 0 5 16 (by decide +kernel) tyX5_ok nmX5 rfl rfl (by decide) (by decide +kernel) rfl rfl rfl rfl (Nat.le_of_ble_eq_true rfl) dX5_readsColour_109 rfl ?_
          refine V.iconst (v := nI (1)) E dX5_readsColour_112 (by decide) ?_
          refine V.topN (b := bN true) (rfl) ?_
          exact hend _ _ _ _ dX5_readsColour_113 (nrB _) ⟨rfl, rfl⟩
        · exact absurd q_74 (pv_6 h2)
      · exact absurd q_74 (pv_6 h1)
    · exact absurd q_74 (pv_6 h0)
  · refine V.aload_n E dX5_readsColour_21 rfl rfl ?_
    refine V.getf (C := RX5) (T := TX5) (N := 17) (ref := "GlassSpillModel") E 0 5 12 (by decide +kernel) rfl rfl (by decide) (by decide +kernel) rfl rfl dX5_readsColour_22 ?_
    refine V.aload_n E dX5_readsColour_25 rfl rfl ?_
    refine V.getf (C := RX5) (T := TX5) (N := 17) (ref := "GlassSpillModel") E 0 5 14 (by decide +kernel) rfl rfl (by decide) (by decide +kernel) rfl rfl dX5_readsColour_26 ?_
    refine V.ialdN (v := nI (tx sp)) E 12 rfl ((by have := ht.1; omega)) (by decide) (rfl) dX5_readsColour_29 ?_
    refine V.bipush (v := nI (46)) E dX5_readsColour_30 (by decide) ?_
    refine V.icmp_neN (tgt := 57) E (Nat.lt_trans (ht.2 sp (by have := ht.1; omega)) (by decide)) (by decide) dX5_readsColour_32 (by decide) (fun q_32 => ?_) (fun q_32 => ?_)
    · refine V.iconst (v := nI (0)) E dX5_readsColour_57 (by decide) ?_
      refine V.istore_n (lv' := [some (.ref (a 0)), some (.int (nI (0))), none, none]) E dX5_readsColour_58 rfl (Nat.le_of_ble_eq_true rfl) rfl rfl ?_
      refine V.iconst (v := nI (0)) E dX5_readsColour_59 (by decide) ?_
      refine V.istore_n (lv' := [some (.ref (a 0)), some (.int (nI (0))), some (.int (nI (0))), none]) E dX5_readsColour_60 rfl (Nat.le_of_ble_eq_true rfl) rfl rfl ?_
      refine V.iload_n E dX5_readsColour_61 rfl rfl ?_
      refine V.iconst (v := nI (3)) E dX5_readsColour_62 (by decide) ?_
      refine V.icmp_geN (tgt := 92) E (by omega) (by omega) dX5_readsColour_63 (by decide) (fun q_63 => absurd q_63 (by decide)) (fun q_63 => ?_)
      refine V.aload_n E dX5_readsColour_66 rfl rfl ?_
      refine V.callV (C := RX5) E (c_X5_readsPart_t G a hi sl sv r o k t m e w tx (upd cl rd (-1)) hl tl sp rd x (ht) (by have := ht.1; omega) (h0)) (bl []) [] 0 5 rfl rfl rfl gX5_readsColour_X5_readsPart rfl ⟨rfl, hd_X5_readsPart⟩ ⟨⟨Nat.le_of_ble_eq_true rfl, Nat.le_of_ble_eq_true rfl⟩, Nat.le_of_ble_eq_true rfl, Nat.le_of_ble_eq_true rfl⟩ rfl (Nat.le_of_ble_eq_true rfl) rfl dX5_readsColour_67 (pBs (n := 1) [mdW G a (fla x) hi sl sv r o k t m e w tx (upd cl rd (-1)) hl tl sp rd] [0] [] rfl (by decide)) (kc' := 0) (ks' := 0) rfl rfl (rwI (ws' := (bl [mdW G a (fla x) hi sl sv r o k t m e w tx (upd cl rd (-1)) hl tl (sp + 1) rd])) (pBs (n := 1) [mdW G a (fla x) hi sl sv r o k t m e w tx (upd cl rd (-1)) hl tl (sp + 1) rd] [0] [] rfl (by decide)).symm ?_)
      refine V.istore_n (lv' := [some (.ref (a 0)), some (.int (nI (0))), some (.int (nI (0))), some (.int (nI (pv (txc tl tx sp))))]) E dX5_readsColour_70 rfl (Nat.le_of_ble_eq_true rfl) rfl rfl ?_
      refine V.iload_n E dX5_readsColour_71 rfl rfl ?_
      refine V.bipush (v := (-6 : Int32)) E dX5_readsColour_72 (by decide) ?_
      refine V.icmp_ne (tgt := 79) E dX5_readsColour_74 (by decide) (fun q_74 => ?_) (fun q_74 => ?_)
      · refine V.bipush (v := nI (16)) E dX5_readsColour_79 (by decide) ?_
        refine V.iload_n E dX5_readsColour_81 rfl rfl ?_
        refine V.imulN E  dX5_readsColour_82 ?_
        refine V.iload_n E dX5_readsColour_83 rfl rfl ?_
        refine V.iaddN E  dX5_readsColour_84 ?_
        refine V.istore_n (lv' := [some (.ref (a 0)), some (.int (nI (0 + (pv (txc tl tx sp))))), some (.int (nI (0))), some (.int (nI (pv (txc tl tx sp))))]) E dX5_readsColour_85 rfl (Nat.le_of_ble_eq_true rfl) rfl rfl ?_
        refine V.iincN (lv' := [some (.ref (a 0)), some (.int (nI (0 + (pv (txc tl tx sp))))), some (.int (nI (1))), some (.int (nI (pv (txc tl tx sp))))]) E dX5_readsColour_86 rfl (Nat.le_of_ble_eq_true rfl) rfl rfl ?_
        refine V.goto (tgt := 61) E dX5_readsColour_89 (by decide) ?_
        refine V.iload_n E dX5_readsColour_61 rfl rfl ?_
        refine V.iconst (v := nI (3)) E dX5_readsColour_62 (by decide) ?_
        refine V.icmp_geN (tgt := 92) E (by omega) (by omega) dX5_readsColour_63 (by decide) (fun q_63 => absurd q_63 (by decide)) (fun q_63 => ?_)
        refine V.aload_n E dX5_readsColour_66 rfl rfl ?_
        refine V.callV (C := RX5) E (c_X5_readsPart_t G a hi sl sv r o k t m e w tx (upd cl rd (-1)) hl tl (sp + 1) rd x (ht) (by have := ht.1; omega) (h1)) (bl []) [] 0 5 rfl rfl rfl gX5_readsColour_X5_readsPart rfl ⟨rfl, hd_X5_readsPart⟩ ⟨⟨Nat.le_of_ble_eq_true rfl, Nat.le_of_ble_eq_true rfl⟩, Nat.le_of_ble_eq_true rfl, Nat.le_of_ble_eq_true rfl⟩ rfl (Nat.le_of_ble_eq_true rfl) rfl dX5_readsColour_67 (pBs (n := 1) [mdW G a (fla x) hi sl sv r o k t m e w tx (upd cl rd (-1)) hl tl (sp + 1) rd] [0] [] rfl (by decide)) (kc' := 0) (ks' := 0) rfl rfl (rwI (ws' := (bl [mdW G a (fla x) hi sl sv r o k t m e w tx (upd cl rd (-1)) hl tl ((sp + 1) + 1) rd])) (pBs (n := 1) [mdW G a (fla x) hi sl sv r o k t m e w tx (upd cl rd (-1)) hl tl ((sp + 1) + 1) rd] [0] [] rfl (by decide)).symm ?_)
        refine V.istore_n (lv' := [some (.ref (a 0)), some (.int (nI (0 + (pv (txc tl tx sp))))), some (.int (nI (1))), some (.int (nI (pv (txc tl tx (sp + 1)))))]) E dX5_readsColour_70 rfl (Nat.le_of_ble_eq_true rfl) rfl rfl ?_
        refine V.iload_n E dX5_readsColour_71 rfl rfl ?_
        refine V.bipush (v := (-6 : Int32)) E dX5_readsColour_72 (by decide) ?_
        refine V.icmp_ne (tgt := 79) E dX5_readsColour_74 (by decide) (fun q_74 => ?_) (fun q_74 => ?_)
        · refine V.bipush (v := nI (16)) E dX5_readsColour_79 (by decide) ?_
          refine V.iload_n E dX5_readsColour_81 rfl rfl ?_
          refine V.imulN E  dX5_readsColour_82 ?_
          refine V.iload_n E dX5_readsColour_83 rfl rfl ?_
          refine V.iaddN E  dX5_readsColour_84 ?_
          refine V.istore_n (lv' := [some (.ref (a 0)), some (.int (nI ((16 * (0 + (pv (txc tl tx sp)))) + (pv (txc tl tx (sp + 1)))))), some (.int (nI (1))), some (.int (nI (pv (txc tl tx (sp + 1)))))]) E dX5_readsColour_85 rfl (Nat.le_of_ble_eq_true rfl) rfl rfl ?_
          refine V.iincN (lv' := [some (.ref (a 0)), some (.int (nI ((16 * (0 + (pv (txc tl tx sp)))) + (pv (txc tl tx (sp + 1)))))), some (.int (nI (2))), some (.int (nI (pv (txc tl tx (sp + 1)))))]) E dX5_readsColour_86 rfl (Nat.le_of_ble_eq_true rfl) rfl rfl ?_
          refine V.goto (tgt := 61) E dX5_readsColour_89 (by decide) ?_
          refine V.iload_n E dX5_readsColour_61 rfl rfl ?_
          refine V.iconst (v := nI (3)) E dX5_readsColour_62 (by decide) ?_
          refine V.icmp_geN (tgt := 92) E (by omega) (by omega) dX5_readsColour_63 (by decide) (fun q_63 => absurd q_63 (by decide)) (fun q_63 => ?_)
          refine V.aload_n E dX5_readsColour_66 rfl rfl ?_
          refine V.callV (C := RX5) E (c_X5_readsPart_t G a hi sl sv r o k t m e w tx (upd cl rd (-1)) hl tl ((sp + 1) + 1) rd x (ht) (by have := ht.1; omega) (h2)) (bl []) [] 0 5 rfl rfl rfl gX5_readsColour_X5_readsPart rfl ⟨rfl, hd_X5_readsPart⟩ ⟨⟨Nat.le_of_ble_eq_true rfl, Nat.le_of_ble_eq_true rfl⟩, Nat.le_of_ble_eq_true rfl, Nat.le_of_ble_eq_true rfl⟩ rfl (Nat.le_of_ble_eq_true rfl) rfl dX5_readsColour_67 (pBs (n := 1) [mdW G a (fla x) hi sl sv r o k t m e w tx (upd cl rd (-1)) hl tl ((sp + 1) + 1) rd] [0] [] rfl (by decide)) (kc' := 0) (ks' := 0) rfl rfl (rwI (ws' := (bl [mdW G a (fla x) hi sl sv r o k t m e w tx (upd cl rd (-1)) hl tl (((sp + 1) + 1) + 1) rd])) (pBs (n := 1) [mdW G a (fla x) hi sl sv r o k t m e w tx (upd cl rd (-1)) hl tl (((sp + 1) + 1) + 1) rd] [0] [] rfl (by decide)).symm ?_)
          refine V.istore_n (lv' := [some (.ref (a 0)), some (.int (nI ((16 * (0 + (pv (txc tl tx sp)))) + (pv (txc tl tx (sp + 1)))))), some (.int (nI (2))), some (.int (nI (pv (txc tl tx ((sp + 1) + 1)))))]) E dX5_readsColour_70 rfl (Nat.le_of_ble_eq_true rfl) rfl rfl ?_
          refine V.iload_n E dX5_readsColour_71 rfl rfl ?_
          refine V.bipush (v := (-6 : Int32)) E dX5_readsColour_72 (by decide) ?_
          refine V.icmp_ne (tgt := 79) E dX5_readsColour_74 (by decide) (fun q_74 => ?_) (fun q_74 => ?_)
          · refine V.bipush (v := nI (16)) E dX5_readsColour_79 (by decide) ?_
            refine V.iload_n E dX5_readsColour_81 rfl rfl ?_
            refine V.imulN E  dX5_readsColour_82 ?_
            refine V.iload_n E dX5_readsColour_83 rfl rfl ?_
            refine V.iaddN E  dX5_readsColour_84 ?_
            refine V.istore_n (lv' := [some (.ref (a 0)), some (.int (nI ((16 * ((16 * (0 + (pv (txc tl tx sp)))) + (pv (txc tl tx (sp + 1))))) + (pv (txc tl tx ((sp + 1) + 1)))))), some (.int (nI (2))), some (.int (nI (pv (txc tl tx ((sp + 1) + 1)))))]) E dX5_readsColour_85 rfl (Nat.le_of_ble_eq_true rfl) rfl rfl ?_
            refine V.iincN (lv' := [some (.ref (a 0)), some (.int (nI ((16 * ((16 * (0 + (pv (txc tl tx sp)))) + (pv (txc tl tx (sp + 1))))) + (pv (txc tl tx ((sp + 1) + 1)))))), some (.int (nI (3))), some (.int (nI (pv (txc tl tx ((sp + 1) + 1)))))]) E dX5_readsColour_86 rfl (Nat.le_of_ble_eq_true rfl) rfl rfl ?_
            refine V.goto (tgt := 61) E dX5_readsColour_89 (by decide) ?_
            refine V.iload_n E dX5_readsColour_61 rfl rfl ?_
            refine V.iconst (v := nI (3)) E dX5_readsColour_62 (by decide) ?_
            refine V.icmp_geN (tgt := 92) E (by omega) (by omega) dX5_readsColour_63 (by decide) (fun q_63 => ?_) (fun q_63 => absurd q_63 (by decide))
            refine V.aload_n E dX5_readsColour_92 rfl rfl ?_
            refine V.getf (C := RX5) (T := TX5) (N := 17) (ref := "GlassSpillModel") E 0 5 15 (by decide +kernel) rfl rfl (by decide) (by decide +kernel) rfl rfl dX5_readsColour_93 ?_
            refine V.aload_n E dX5_readsColour_96 rfl rfl ?_
            refine V.getf (C := RX5) (T := TX5) (N := 17) (ref := "GlassSpillModel") E 0 5 16 (by decide +kernel) rfl rfl (by decide) (by decide +kernel) rfl rfl dX5_readsColour_97 ?_
            refine V.iload_n E dX5_readsColour_100 rfl rfl ?_
            refine V.iastN (f' := upd cl rd (nI (cv3 tl tx sp))) (ws' := (bl [mdW G a (fla x) hi sl sv r o k t m e w tx (upd cl rd (nI (cv3 tl tx sp))) hl tl (((sp + 1) + 1) + 1) rd])) E 13 rfl (by omega) (by decide) dX5_readsColour_101 (fun j _ => (upd_uu cl rd _ _ j).trans (by rw [show (16 * ((16 * (0 + (pv (txc tl tx sp)))) + (pv (txc tl tx (sp + 1))))) + (pv (txc tl tx ((sp + 1) + 1))) = cv3 tl tx sp by unfold cv3; omega])) rfl ?_
            refine V.aload_n E dX5_readsColour_102 rfl rfl ?_
            refine V.dup E dX5_readsColour_103 rfl ?_
            refine V.getf (C := RX5) (T := TX5) (N := 17) (ref := "GlassSpillModel") E 0 5 16 (by decide +kernel) rfl rfl (by decide) (by decide +kernel) rfl rfl dX5_readsColour_104 ?_
            refine V.iconst (v := nI (1)) E dX5_readsColour_107 (by decide) ?_
            refine V.iaddN E  dX5_readsColour_108 ?_
            refine V.putf (C := RX5) (T := TX5) (N := 17) (ref := "GlassSpillModel") (ws' := (bl [mdW G a (fla x) hi sl sv r o k t m e w tx (upd cl rd (nI (cv3 tl tx sp))) hl tl (((sp + 1) + 1) + 1) (rd + 1)])) E 0 5 16 (by decide +kernel) tyX5_ok nmX5 rfl rfl (by decide) (by decide +kernel) rfl rfl rfl rfl (Nat.le_of_ble_eq_true rfl) dX5_readsColour_109 rfl ?_
            refine V.iconst (v := nI (1)) E dX5_readsColour_112 (by decide) ?_
            refine V.topN (b := bN true) (rfl) ?_
            exact hend _ _ _ _ dX5_readsColour_113 (nrB _) ⟨rfl, rfl⟩
          · exact absurd q_74 (pv_6 h2)
        · exact absurd q_74 (pv_6 h1)
      · exact absurd q_74 (pv_6 h0)
    · exact absurd ⟨q_18, q_32⟩ hd
abbrev rm_c_X5_readsColour_0 : Room := { frames := 2, cells := 0, slots := 0, locals := 47 }
set_option maxRecDepth 100000 in
set_option maxHeartbeats 8000000 in
theorem c_X5_readsColour_0 (G : VC) (a : Nat → Nat) (hi : Nat → Nat) (sl : Nat → Nat) (sv : Nat → Nat) (r : Nat → Nat) (o : Nat → Nat) (k : Nat → Nat) (t : Nat → Nat) (m : Nat → Nat) (e : Nat → Nat) (w : Nat → Nat) (tx : Nat → Nat) (cl : Nat → Int32) (hl : Nat) (tl : Nat) (sp : Nat) (rd : Nat) (x : SC) (ht : TI tl tx) (hs : sp ≤ 48) (hr : rd < 8) (hd : ¬ (sp < tl ∧ tx sp = 46)) (h0 : isP (txc tl tx (sp)) = false) : Ctr yX5_readsColour wsX5_readsColour rm_c_X5_readsColour_0 G [.ref (a 0)] (bl [mdW G a (fla x) hi sl sv r o k t m e w tx cl hl tl sp rd]) (fun v9_ u9_ => u9_ = (bl [mdW G a (fla x) hi sl sv r o k t m e w tx (upd cl rd (-1)) hl tl sp rd]) ∧ v9_ = some (.int (nI (bN false)))) := by
  refine Ctr.int (cc := cX5_readsColour) (maxL := 4) (ret := (some .boolean)) (lv0 := [some (.ref (a 0)), none, none, none]) (by decide) rfl rfl rfl (Nat.le_of_ble_eq_true rfl) rfl (fun A X E hend => ?_)
  refine V.aload_n E dX5_readsColour_0 rfl rfl ?_
  refine V.getf (C := RX5) (T := TX5) (N := 17) (ref := "GlassSpillModel") E 0 5 15 (by decide +kernel) rfl rfl (by decide) (by decide +kernel) rfl rfl dX5_readsColour_1 ?_
  refine V.aload_n E dX5_readsColour_4 rfl rfl ?_
  refine V.getf (C := RX5) (T := TX5) (N := 17) (ref := "GlassSpillModel") E 0 5 16 (by decide +kernel) rfl rfl (by decide) (by decide +kernel) rfl rfl dX5_readsColour_5 ?_
  refine V.iconst (v := (-1 : Int32)) E dX5_readsColour_8 (by decide) ?_
  refine V.iastN (f' := upd cl rd (-1)) (ws' := (bl [mdW G a (fla x) hi sl sv r o k t m e w tx (upd cl rd (-1)) hl tl sp rd])) E 13 rfl (by omega) (by decide) dX5_readsColour_9 (fun j _ => rfl) rfl ?_
  refine V.aload_n E dX5_readsColour_10 rfl rfl ?_
  refine V.getf (C := RX5) (T := TX5) (N := 17) (ref := "GlassSpillModel") E 0 5 14 (by decide +kernel) rfl rfl (by decide) (by decide +kernel) rfl rfl dX5_readsColour_11 ?_
  refine V.aload_n E dX5_readsColour_14 rfl rfl ?_
  refine V.getf (C := RX5) (T := TX5) (N := 17) (ref := "GlassSpillModel") E 0 5 13 (by decide +kernel) rfl rfl (by decide) (by decide +kernel) rfl rfl dX5_readsColour_15 ?_
  refine V.icmp_geN (tgt := 57) E (by omega) (by have := ht.1; omega) dX5_readsColour_18 (by decide) (fun q_18 => ?_) (fun q_18 => ?_)
  · refine V.iconst (v := nI (0)) E dX5_readsColour_57 (by decide) ?_
    refine V.istore_n (lv' := [some (.ref (a 0)), some (.int (nI (0))), none, none]) E dX5_readsColour_58 rfl (Nat.le_of_ble_eq_true rfl) rfl rfl ?_
    refine V.iconst (v := nI (0)) E dX5_readsColour_59 (by decide) ?_
    refine V.istore_n (lv' := [some (.ref (a 0)), some (.int (nI (0))), some (.int (nI (0))), none]) E dX5_readsColour_60 rfl (Nat.le_of_ble_eq_true rfl) rfl rfl ?_
    refine V.iload_n E dX5_readsColour_61 rfl rfl ?_
    refine V.iconst (v := nI (3)) E dX5_readsColour_62 (by decide) ?_
    refine V.icmp_geN (tgt := 92) E (by omega) (by omega) dX5_readsColour_63 (by decide) (fun q_63 => absurd q_63 (by decide)) (fun q_63 => ?_)
    refine V.aload_n E dX5_readsColour_66 rfl rfl ?_
    refine V.callV (C := RX5) E (c_X5_readsPart_f G a hi sl sv r o k t m e w tx (upd cl rd (-1)) hl tl sp rd x (ht) (by have := ht.1; omega) (h0)) (bl []) [] 0 5 rfl rfl rfl gX5_readsColour_X5_readsPart rfl ⟨rfl, hd_X5_readsPart⟩ ⟨⟨Nat.le_of_ble_eq_true rfl, Nat.le_of_ble_eq_true rfl⟩, Nat.le_of_ble_eq_true rfl, Nat.le_of_ble_eq_true rfl⟩ rfl (Nat.le_of_ble_eq_true rfl) rfl dX5_readsColour_67 (pBs (n := 1) [mdW G a (fla x) hi sl sv r o k t m e w tx (upd cl rd (-1)) hl tl sp rd] [0] [] rfl (by decide)) (kc' := 0) (ks' := 0) rfl rfl (rwI (ws' := (bl [mdW G a (fla x) hi sl sv r o k t m e w tx (upd cl rd (-1)) hl tl sp rd])) (pBs (n := 1) [mdW G a (fla x) hi sl sv r o k t m e w tx (upd cl rd (-1)) hl tl sp rd] [0] [] rfl (by decide)).symm ?_)
    refine V.istore_n (lv' := [some (.ref (a 0)), some (.int (nI (0))), some (.int (nI (0))), some (.int ((-6 : Int32)))]) E dX5_readsColour_70 rfl (Nat.le_of_ble_eq_true rfl) rfl rfl ?_
    refine V.iload_n E dX5_readsColour_71 rfl rfl ?_
    refine V.bipush (v := (-6 : Int32)) E dX5_readsColour_72 (by decide) ?_
    refine V.icmp_ne (tgt := 79) E dX5_readsColour_74 (by decide) (fun q_74 => ?_) (fun q_74 => ?_)
    · exact absurd rfl q_74
    · refine V.iconst (v := nI (0)) E dX5_readsColour_77 (by decide) ?_
      refine V.topN (b := bN false) (rfl) ?_
      exact hend _ _ _ _ dX5_readsColour_78 (nrB _) ⟨rfl, rfl⟩
  · refine V.aload_n E dX5_readsColour_21 rfl rfl ?_
    refine V.getf (C := RX5) (T := TX5) (N := 17) (ref := "GlassSpillModel") E 0 5 12 (by decide +kernel) rfl rfl (by decide) (by decide +kernel) rfl rfl dX5_readsColour_22 ?_
    refine V.aload_n E dX5_readsColour_25 rfl rfl ?_
    refine V.getf (C := RX5) (T := TX5) (N := 17) (ref := "GlassSpillModel") E 0 5 14 (by decide +kernel) rfl rfl (by decide) (by decide +kernel) rfl rfl dX5_readsColour_26 ?_
    refine V.ialdN (v := nI (tx sp)) E 12 rfl ((by have := ht.1; omega)) (by decide) (rfl) dX5_readsColour_29 ?_
    refine V.bipush (v := nI (46)) E dX5_readsColour_30 (by decide) ?_
    refine V.icmp_neN (tgt := 57) E (Nat.lt_trans (ht.2 sp (by have := ht.1; omega)) (by decide)) (by decide) dX5_readsColour_32 (by decide) (fun q_32 => ?_) (fun q_32 => ?_)
    · refine V.iconst (v := nI (0)) E dX5_readsColour_57 (by decide) ?_
      refine V.istore_n (lv' := [some (.ref (a 0)), some (.int (nI (0))), none, none]) E dX5_readsColour_58 rfl (Nat.le_of_ble_eq_true rfl) rfl rfl ?_
      refine V.iconst (v := nI (0)) E dX5_readsColour_59 (by decide) ?_
      refine V.istore_n (lv' := [some (.ref (a 0)), some (.int (nI (0))), some (.int (nI (0))), none]) E dX5_readsColour_60 rfl (Nat.le_of_ble_eq_true rfl) rfl rfl ?_
      refine V.iload_n E dX5_readsColour_61 rfl rfl ?_
      refine V.iconst (v := nI (3)) E dX5_readsColour_62 (by decide) ?_
      refine V.icmp_geN (tgt := 92) E (by omega) (by omega) dX5_readsColour_63 (by decide) (fun q_63 => absurd q_63 (by decide)) (fun q_63 => ?_)
      refine V.aload_n E dX5_readsColour_66 rfl rfl ?_
      refine V.callV (C := RX5) E (c_X5_readsPart_f G a hi sl sv r o k t m e w tx (upd cl rd (-1)) hl tl sp rd x (ht) (by have := ht.1; omega) (h0)) (bl []) [] 0 5 rfl rfl rfl gX5_readsColour_X5_readsPart rfl ⟨rfl, hd_X5_readsPart⟩ ⟨⟨Nat.le_of_ble_eq_true rfl, Nat.le_of_ble_eq_true rfl⟩, Nat.le_of_ble_eq_true rfl, Nat.le_of_ble_eq_true rfl⟩ rfl (Nat.le_of_ble_eq_true rfl) rfl dX5_readsColour_67 (pBs (n := 1) [mdW G a (fla x) hi sl sv r o k t m e w tx (upd cl rd (-1)) hl tl sp rd] [0] [] rfl (by decide)) (kc' := 0) (ks' := 0) rfl rfl (rwI (ws' := (bl [mdW G a (fla x) hi sl sv r o k t m e w tx (upd cl rd (-1)) hl tl sp rd])) (pBs (n := 1) [mdW G a (fla x) hi sl sv r o k t m e w tx (upd cl rd (-1)) hl tl sp rd] [0] [] rfl (by decide)).symm ?_)
      refine V.istore_n (lv' := [some (.ref (a 0)), some (.int (nI (0))), some (.int (nI (0))), some (.int ((-6 : Int32)))]) E dX5_readsColour_70 rfl (Nat.le_of_ble_eq_true rfl) rfl rfl ?_
      refine V.iload_n E dX5_readsColour_71 rfl rfl ?_
      refine V.bipush (v := (-6 : Int32)) E dX5_readsColour_72 (by decide) ?_
      refine V.icmp_ne (tgt := 79) E dX5_readsColour_74 (by decide) (fun q_74 => ?_) (fun q_74 => ?_)
      · exact absurd rfl q_74
      · refine V.iconst (v := nI (0)) E dX5_readsColour_77 (by decide) ?_
        refine V.topN (b := bN false) (rfl) ?_
        exact hend _ _ _ _ dX5_readsColour_78 (nrB _) ⟨rfl, rfl⟩
    · exact absurd ⟨q_18, q_32⟩ hd
abbrev rm_c_X5_readsColour_1 : Room := { frames := 2, cells := 0, slots := 0, locals := 47 }
set_option maxRecDepth 100000 in
set_option maxHeartbeats 8000000 in
theorem c_X5_readsColour_1 (G : VC) (a : Nat → Nat) (hi : Nat → Nat) (sl : Nat → Nat) (sv : Nat → Nat) (r : Nat → Nat) (o : Nat → Nat) (k : Nat → Nat) (t : Nat → Nat) (m : Nat → Nat) (e : Nat → Nat) (w : Nat → Nat) (tx : Nat → Nat) (cl : Nat → Int32) (hl : Nat) (tl : Nat) (sp : Nat) (rd : Nat) (x : SC) (ht : TI tl tx) (hs : sp ≤ 48) (hr : rd < 8) (h0 : isP (txc tl tx (sp)) = true) (h1 : isP (txc tl tx (sp + 1)) = false) : Ctr yX5_readsColour wsX5_readsColour rm_c_X5_readsColour_1 G [.ref (a 0)] (bl [mdW G a (fla x) hi sl sv r o k t m e w tx cl hl tl sp rd]) (fun v9_ u9_ => u9_ = (bl [mdW G a (fla x) hi sl sv r o k t m e w tx (upd cl rd (-1)) hl tl (sp + 1) rd]) ∧ v9_ = some (.int (nI (bN false)))) := by
  have hd : ¬ (sp < tl ∧ tx sp = 46) := fun e => absurd ((dotP e.2).symm.trans h0) (by decide)
  have e0 := isP_in h0
  refine Ctr.int (cc := cX5_readsColour) (maxL := 4) (ret := (some .boolean)) (lv0 := [some (.ref (a 0)), none, none, none]) (by decide) rfl rfl rfl (Nat.le_of_ble_eq_true rfl) rfl (fun A X E hend => ?_)
  refine V.aload_n E dX5_readsColour_0 rfl rfl ?_
  refine V.getf (C := RX5) (T := TX5) (N := 17) (ref := "GlassSpillModel") E 0 5 15 (by decide +kernel) rfl rfl (by decide) (by decide +kernel) rfl rfl dX5_readsColour_1 ?_
  refine V.aload_n E dX5_readsColour_4 rfl rfl ?_
  refine V.getf (C := RX5) (T := TX5) (N := 17) (ref := "GlassSpillModel") E 0 5 16 (by decide +kernel) rfl rfl (by decide) (by decide +kernel) rfl rfl dX5_readsColour_5 ?_
  refine V.iconst (v := (-1 : Int32)) E dX5_readsColour_8 (by decide) ?_
  refine V.iastN (f' := upd cl rd (-1)) (ws' := (bl [mdW G a (fla x) hi sl sv r o k t m e w tx (upd cl rd (-1)) hl tl sp rd])) E 13 rfl (by omega) (by decide) dX5_readsColour_9 (fun j _ => rfl) rfl ?_
  refine V.aload_n E dX5_readsColour_10 rfl rfl ?_
  refine V.getf (C := RX5) (T := TX5) (N := 17) (ref := "GlassSpillModel") E 0 5 14 (by decide +kernel) rfl rfl (by decide) (by decide +kernel) rfl rfl dX5_readsColour_11 ?_
  refine V.aload_n E dX5_readsColour_14 rfl rfl ?_
  refine V.getf (C := RX5) (T := TX5) (N := 17) (ref := "GlassSpillModel") E 0 5 13 (by decide +kernel) rfl rfl (by decide) (by decide +kernel) rfl rfl dX5_readsColour_15 ?_
  refine V.icmp_geN (tgt := 57) E (by omega) (by have := ht.1; omega) dX5_readsColour_18 (by decide) (fun q_18 => ?_) (fun q_18 => ?_)
  · refine V.iconst (v := nI (0)) E dX5_readsColour_57 (by decide) ?_
    refine V.istore_n (lv' := [some (.ref (a 0)), some (.int (nI (0))), none, none]) E dX5_readsColour_58 rfl (Nat.le_of_ble_eq_true rfl) rfl rfl ?_
    refine V.iconst (v := nI (0)) E dX5_readsColour_59 (by decide) ?_
    refine V.istore_n (lv' := [some (.ref (a 0)), some (.int (nI (0))), some (.int (nI (0))), none]) E dX5_readsColour_60 rfl (Nat.le_of_ble_eq_true rfl) rfl rfl ?_
    refine V.iload_n E dX5_readsColour_61 rfl rfl ?_
    refine V.iconst (v := nI (3)) E dX5_readsColour_62 (by decide) ?_
    refine V.icmp_geN (tgt := 92) E (by omega) (by omega) dX5_readsColour_63 (by decide) (fun q_63 => absurd q_63 (by decide)) (fun q_63 => ?_)
    refine V.aload_n E dX5_readsColour_66 rfl rfl ?_
    refine V.callV (C := RX5) E (c_X5_readsPart_t G a hi sl sv r o k t m e w tx (upd cl rd (-1)) hl tl sp rd x (ht) (by have := ht.1; omega) (h0)) (bl []) [] 0 5 rfl rfl rfl gX5_readsColour_X5_readsPart rfl ⟨rfl, hd_X5_readsPart⟩ ⟨⟨Nat.le_of_ble_eq_true rfl, Nat.le_of_ble_eq_true rfl⟩, Nat.le_of_ble_eq_true rfl, Nat.le_of_ble_eq_true rfl⟩ rfl (Nat.le_of_ble_eq_true rfl) rfl dX5_readsColour_67 (pBs (n := 1) [mdW G a (fla x) hi sl sv r o k t m e w tx (upd cl rd (-1)) hl tl sp rd] [0] [] rfl (by decide)) (kc' := 0) (ks' := 0) rfl rfl (rwI (ws' := (bl [mdW G a (fla x) hi sl sv r o k t m e w tx (upd cl rd (-1)) hl tl (sp + 1) rd])) (pBs (n := 1) [mdW G a (fla x) hi sl sv r o k t m e w tx (upd cl rd (-1)) hl tl (sp + 1) rd] [0] [] rfl (by decide)).symm ?_)
    refine V.istore_n (lv' := [some (.ref (a 0)), some (.int (nI (0))), some (.int (nI (0))), some (.int (nI (pv (txc tl tx sp))))]) E dX5_readsColour_70 rfl (Nat.le_of_ble_eq_true rfl) rfl rfl ?_
    refine V.iload_n E dX5_readsColour_71 rfl rfl ?_
    refine V.bipush (v := (-6 : Int32)) E dX5_readsColour_72 (by decide) ?_
    refine V.icmp_ne (tgt := 79) E dX5_readsColour_74 (by decide) (fun q_74 => ?_) (fun q_74 => ?_)
    · refine V.bipush (v := nI (16)) E dX5_readsColour_79 (by decide) ?_
      refine V.iload_n E dX5_readsColour_81 rfl rfl ?_
      refine V.imulN E  dX5_readsColour_82 ?_
      refine V.iload_n E dX5_readsColour_83 rfl rfl ?_
      refine V.iaddN E  dX5_readsColour_84 ?_
      refine V.istore_n (lv' := [some (.ref (a 0)), some (.int (nI (0 + (pv (txc tl tx sp))))), some (.int (nI (0))), some (.int (nI (pv (txc tl tx sp))))]) E dX5_readsColour_85 rfl (Nat.le_of_ble_eq_true rfl) rfl rfl ?_
      refine V.iincN (lv' := [some (.ref (a 0)), some (.int (nI (0 + (pv (txc tl tx sp))))), some (.int (nI (1))), some (.int (nI (pv (txc tl tx sp))))]) E dX5_readsColour_86 rfl (Nat.le_of_ble_eq_true rfl) rfl rfl ?_
      refine V.goto (tgt := 61) E dX5_readsColour_89 (by decide) ?_
      refine V.iload_n E dX5_readsColour_61 rfl rfl ?_
      refine V.iconst (v := nI (3)) E dX5_readsColour_62 (by decide) ?_
      refine V.icmp_geN (tgt := 92) E (by omega) (by omega) dX5_readsColour_63 (by decide) (fun q_63 => absurd q_63 (by decide)) (fun q_63 => ?_)
      refine V.aload_n E dX5_readsColour_66 rfl rfl ?_
      refine V.callV (C := RX5) E (c_X5_readsPart_f G a hi sl sv r o k t m e w tx (upd cl rd (-1)) hl tl (sp + 1) rd x (ht) (by have := ht.1; omega) (h1)) (bl []) [] 0 5 rfl rfl rfl gX5_readsColour_X5_readsPart rfl ⟨rfl, hd_X5_readsPart⟩ ⟨⟨Nat.le_of_ble_eq_true rfl, Nat.le_of_ble_eq_true rfl⟩, Nat.le_of_ble_eq_true rfl, Nat.le_of_ble_eq_true rfl⟩ rfl (Nat.le_of_ble_eq_true rfl) rfl dX5_readsColour_67 (pBs (n := 1) [mdW G a (fla x) hi sl sv r o k t m e w tx (upd cl rd (-1)) hl tl (sp + 1) rd] [0] [] rfl (by decide)) (kc' := 0) (ks' := 0) rfl rfl (rwI (ws' := (bl [mdW G a (fla x) hi sl sv r o k t m e w tx (upd cl rd (-1)) hl tl (sp + 1) rd])) (pBs (n := 1) [mdW G a (fla x) hi sl sv r o k t m e w tx (upd cl rd (-1)) hl tl (sp + 1) rd] [0] [] rfl (by decide)).symm ?_)
      refine V.istore_n (lv' := [some (.ref (a 0)), some (.int (nI (0 + (pv (txc tl tx sp))))), some (.int (nI (1))), some (.int ((-6 : Int32)))]) E dX5_readsColour_70 rfl (Nat.le_of_ble_eq_true rfl) rfl rfl ?_
      refine V.iload_n E dX5_readsColour_71 rfl rfl ?_
      refine V.bipush (v := (-6 : Int32)) E dX5_readsColour_72 (by decide) ?_
      refine V.icmp_ne (tgt := 79) E dX5_readsColour_74 (by decide) (fun q_74 => ?_) (fun q_74 => ?_)
      · exact absurd rfl q_74
      · refine V.iconst (v := nI (0)) E dX5_readsColour_77 (by decide) ?_
        refine V.topN (b := bN false) (rfl) ?_
        exact hend _ _ _ _ dX5_readsColour_78 (nrB _) ⟨rfl, rfl⟩
    · exact absurd q_74 (pv_6 h0)
  · refine V.aload_n E dX5_readsColour_21 rfl rfl ?_
    refine V.getf (C := RX5) (T := TX5) (N := 17) (ref := "GlassSpillModel") E 0 5 12 (by decide +kernel) rfl rfl (by decide) (by decide +kernel) rfl rfl dX5_readsColour_22 ?_
    refine V.aload_n E dX5_readsColour_25 rfl rfl ?_
    refine V.getf (C := RX5) (T := TX5) (N := 17) (ref := "GlassSpillModel") E 0 5 14 (by decide +kernel) rfl rfl (by decide) (by decide +kernel) rfl rfl dX5_readsColour_26 ?_
    refine V.ialdN (v := nI (tx sp)) E 12 rfl ((by have := ht.1; omega)) (by decide) (rfl) dX5_readsColour_29 ?_
    refine V.bipush (v := nI (46)) E dX5_readsColour_30 (by decide) ?_
    refine V.icmp_neN (tgt := 57) E (Nat.lt_trans (ht.2 sp (by have := ht.1; omega)) (by decide)) (by decide) dX5_readsColour_32 (by decide) (fun q_32 => ?_) (fun q_32 => ?_)
    · refine V.iconst (v := nI (0)) E dX5_readsColour_57 (by decide) ?_
      refine V.istore_n (lv' := [some (.ref (a 0)), some (.int (nI (0))), none, none]) E dX5_readsColour_58 rfl (Nat.le_of_ble_eq_true rfl) rfl rfl ?_
      refine V.iconst (v := nI (0)) E dX5_readsColour_59 (by decide) ?_
      refine V.istore_n (lv' := [some (.ref (a 0)), some (.int (nI (0))), some (.int (nI (0))), none]) E dX5_readsColour_60 rfl (Nat.le_of_ble_eq_true rfl) rfl rfl ?_
      refine V.iload_n E dX5_readsColour_61 rfl rfl ?_
      refine V.iconst (v := nI (3)) E dX5_readsColour_62 (by decide) ?_
      refine V.icmp_geN (tgt := 92) E (by omega) (by omega) dX5_readsColour_63 (by decide) (fun q_63 => absurd q_63 (by decide)) (fun q_63 => ?_)
      refine V.aload_n E dX5_readsColour_66 rfl rfl ?_
      refine V.callV (C := RX5) E (c_X5_readsPart_t G a hi sl sv r o k t m e w tx (upd cl rd (-1)) hl tl sp rd x (ht) (by have := ht.1; omega) (h0)) (bl []) [] 0 5 rfl rfl rfl gX5_readsColour_X5_readsPart rfl ⟨rfl, hd_X5_readsPart⟩ ⟨⟨Nat.le_of_ble_eq_true rfl, Nat.le_of_ble_eq_true rfl⟩, Nat.le_of_ble_eq_true rfl, Nat.le_of_ble_eq_true rfl⟩ rfl (Nat.le_of_ble_eq_true rfl) rfl dX5_readsColour_67 (pBs (n := 1) [mdW G a (fla x) hi sl sv r o k t m e w tx (upd cl rd (-1)) hl tl sp rd] [0] [] rfl (by decide)) (kc' := 0) (ks' := 0) rfl rfl (rwI (ws' := (bl [mdW G a (fla x) hi sl sv r o k t m e w tx (upd cl rd (-1)) hl tl (sp + 1) rd])) (pBs (n := 1) [mdW G a (fla x) hi sl sv r o k t m e w tx (upd cl rd (-1)) hl tl (sp + 1) rd] [0] [] rfl (by decide)).symm ?_)
      refine V.istore_n (lv' := [some (.ref (a 0)), some (.int (nI (0))), some (.int (nI (0))), some (.int (nI (pv (txc tl tx sp))))]) E dX5_readsColour_70 rfl (Nat.le_of_ble_eq_true rfl) rfl rfl ?_
      refine V.iload_n E dX5_readsColour_71 rfl rfl ?_
      refine V.bipush (v := (-6 : Int32)) E dX5_readsColour_72 (by decide) ?_
      refine V.icmp_ne (tgt := 79) E dX5_readsColour_74 (by decide) (fun q_74 => ?_) (fun q_74 => ?_)
      · refine V.bipush (v := nI (16)) E dX5_readsColour_79 (by decide) ?_
        refine V.iload_n E dX5_readsColour_81 rfl rfl ?_
        refine V.imulN E  dX5_readsColour_82 ?_
        refine V.iload_n E dX5_readsColour_83 rfl rfl ?_
        refine V.iaddN E  dX5_readsColour_84 ?_
        refine V.istore_n (lv' := [some (.ref (a 0)), some (.int (nI (0 + (pv (txc tl tx sp))))), some (.int (nI (0))), some (.int (nI (pv (txc tl tx sp))))]) E dX5_readsColour_85 rfl (Nat.le_of_ble_eq_true rfl) rfl rfl ?_
        refine V.iincN (lv' := [some (.ref (a 0)), some (.int (nI (0 + (pv (txc tl tx sp))))), some (.int (nI (1))), some (.int (nI (pv (txc tl tx sp))))]) E dX5_readsColour_86 rfl (Nat.le_of_ble_eq_true rfl) rfl rfl ?_
        refine V.goto (tgt := 61) E dX5_readsColour_89 (by decide) ?_
        refine V.iload_n E dX5_readsColour_61 rfl rfl ?_
        refine V.iconst (v := nI (3)) E dX5_readsColour_62 (by decide) ?_
        refine V.icmp_geN (tgt := 92) E (by omega) (by omega) dX5_readsColour_63 (by decide) (fun q_63 => absurd q_63 (by decide)) (fun q_63 => ?_)
        refine V.aload_n E dX5_readsColour_66 rfl rfl ?_
        refine V.callV (C := RX5) E (c_X5_readsPart_f G a hi sl sv r o k t m e w tx (upd cl rd (-1)) hl tl (sp + 1) rd x (ht) (by have := ht.1; omega) (h1)) (bl []) [] 0 5 rfl rfl rfl gX5_readsColour_X5_readsPart rfl ⟨rfl, hd_X5_readsPart⟩ ⟨⟨Nat.le_of_ble_eq_true rfl, Nat.le_of_ble_eq_true rfl⟩, Nat.le_of_ble_eq_true rfl, Nat.le_of_ble_eq_true rfl⟩ rfl (Nat.le_of_ble_eq_true rfl) rfl dX5_readsColour_67 (pBs (n := 1) [mdW G a (fla x) hi sl sv r o k t m e w tx (upd cl rd (-1)) hl tl (sp + 1) rd] [0] [] rfl (by decide)) (kc' := 0) (ks' := 0) rfl rfl (rwI (ws' := (bl [mdW G a (fla x) hi sl sv r o k t m e w tx (upd cl rd (-1)) hl tl (sp + 1) rd])) (pBs (n := 1) [mdW G a (fla x) hi sl sv r o k t m e w tx (upd cl rd (-1)) hl tl (sp + 1) rd] [0] [] rfl (by decide)).symm ?_)
        refine V.istore_n (lv' := [some (.ref (a 0)), some (.int (nI (0 + (pv (txc tl tx sp))))), some (.int (nI (1))), some (.int ((-6 : Int32)))]) E dX5_readsColour_70 rfl (Nat.le_of_ble_eq_true rfl) rfl rfl ?_
        refine V.iload_n E dX5_readsColour_71 rfl rfl ?_
        refine V.bipush (v := (-6 : Int32)) E dX5_readsColour_72 (by decide) ?_
        refine V.icmp_ne (tgt := 79) E dX5_readsColour_74 (by decide) (fun q_74 => ?_) (fun q_74 => ?_)
        · exact absurd rfl q_74
        · refine V.iconst (v := nI (0)) E dX5_readsColour_77 (by decide) ?_
          refine V.topN (b := bN false) (rfl) ?_
          exact hend _ _ _ _ dX5_readsColour_78 (nrB _) ⟨rfl, rfl⟩
      · exact absurd q_74 (pv_6 h0)
    · exact absurd ⟨q_18, q_32⟩ hd
abbrev rm_c_X5_readsColour_2 : Room := { frames := 2, cells := 0, slots := 0, locals := 47 }
set_option maxRecDepth 100000 in
set_option maxHeartbeats 8000000 in
theorem c_X5_readsColour_2 (G : VC) (a : Nat → Nat) (hi : Nat → Nat) (sl : Nat → Nat) (sv : Nat → Nat) (r : Nat → Nat) (o : Nat → Nat) (k : Nat → Nat) (t : Nat → Nat) (m : Nat → Nat) (e : Nat → Nat) (w : Nat → Nat) (tx : Nat → Nat) (cl : Nat → Int32) (hl : Nat) (tl : Nat) (sp : Nat) (rd : Nat) (x : SC) (ht : TI tl tx) (hs : sp ≤ 48) (hr : rd < 8) (h0 : isP (txc tl tx (sp)) = true) (h1 : isP (txc tl tx (sp + 1)) = true) (h2 : isP (txc tl tx (sp + 1 + 1)) = false) : Ctr yX5_readsColour wsX5_readsColour rm_c_X5_readsColour_2 G [.ref (a 0)] (bl [mdW G a (fla x) hi sl sv r o k t m e w tx cl hl tl sp rd]) (fun v9_ u9_ => u9_ = (bl [mdW G a (fla x) hi sl sv r o k t m e w tx (upd cl rd (-1)) hl tl (sp + 1 + 1) rd]) ∧ v9_ = some (.int (nI (bN false)))) := by
  have hd : ¬ (sp < tl ∧ tx sp = 46) := fun e => absurd ((dotP e.2).symm.trans h0) (by decide)
  have e0 := isP_in h0
  have e1 := isP_in h1
  refine Ctr.int (cc := cX5_readsColour) (maxL := 4) (ret := (some .boolean)) (lv0 := [some (.ref (a 0)), none, none, none]) (by decide) rfl rfl rfl (Nat.le_of_ble_eq_true rfl) rfl (fun A X E hend => ?_)
  refine V.aload_n E dX5_readsColour_0 rfl rfl ?_
  refine V.getf (C := RX5) (T := TX5) (N := 17) (ref := "GlassSpillModel") E 0 5 15 (by decide +kernel) rfl rfl (by decide) (by decide +kernel) rfl rfl dX5_readsColour_1 ?_
  refine V.aload_n E dX5_readsColour_4 rfl rfl ?_
  refine V.getf (C := RX5) (T := TX5) (N := 17) (ref := "GlassSpillModel") E 0 5 16 (by decide +kernel) rfl rfl (by decide) (by decide +kernel) rfl rfl dX5_readsColour_5 ?_
  refine V.iconst (v := (-1 : Int32)) E dX5_readsColour_8 (by decide) ?_
  refine V.iastN (f' := upd cl rd (-1)) (ws' := (bl [mdW G a (fla x) hi sl sv r o k t m e w tx (upd cl rd (-1)) hl tl sp rd])) E 13 rfl (by omega) (by decide) dX5_readsColour_9 (fun j _ => rfl) rfl ?_
  refine V.aload_n E dX5_readsColour_10 rfl rfl ?_
  refine V.getf (C := RX5) (T := TX5) (N := 17) (ref := "GlassSpillModel") E 0 5 14 (by decide +kernel) rfl rfl (by decide) (by decide +kernel) rfl rfl dX5_readsColour_11 ?_
  refine V.aload_n E dX5_readsColour_14 rfl rfl ?_
  refine V.getf (C := RX5) (T := TX5) (N := 17) (ref := "GlassSpillModel") E 0 5 13 (by decide +kernel) rfl rfl (by decide) (by decide +kernel) rfl rfl dX5_readsColour_15 ?_
  refine V.icmp_geN (tgt := 57) E (by omega) (by have := ht.1; omega) dX5_readsColour_18 (by decide) (fun q_18 => ?_) (fun q_18 => ?_)
  · refine V.iconst (v := nI (0)) E dX5_readsColour_57 (by decide) ?_
    refine V.istore_n (lv' := [some (.ref (a 0)), some (.int (nI (0))), none, none]) E dX5_readsColour_58 rfl (Nat.le_of_ble_eq_true rfl) rfl rfl ?_
    refine V.iconst (v := nI (0)) E dX5_readsColour_59 (by decide) ?_
    refine V.istore_n (lv' := [some (.ref (a 0)), some (.int (nI (0))), some (.int (nI (0))), none]) E dX5_readsColour_60 rfl (Nat.le_of_ble_eq_true rfl) rfl rfl ?_
    refine V.iload_n E dX5_readsColour_61 rfl rfl ?_
    refine V.iconst (v := nI (3)) E dX5_readsColour_62 (by decide) ?_
    refine V.icmp_geN (tgt := 92) E (by omega) (by omega) dX5_readsColour_63 (by decide) (fun q_63 => absurd q_63 (by decide)) (fun q_63 => ?_)
    refine V.aload_n E dX5_readsColour_66 rfl rfl ?_
    refine V.callV (C := RX5) E (c_X5_readsPart_t G a hi sl sv r o k t m e w tx (upd cl rd (-1)) hl tl sp rd x (ht) (by have := ht.1; omega) (h0)) (bl []) [] 0 5 rfl rfl rfl gX5_readsColour_X5_readsPart rfl ⟨rfl, hd_X5_readsPart⟩ ⟨⟨Nat.le_of_ble_eq_true rfl, Nat.le_of_ble_eq_true rfl⟩, Nat.le_of_ble_eq_true rfl, Nat.le_of_ble_eq_true rfl⟩ rfl (Nat.le_of_ble_eq_true rfl) rfl dX5_readsColour_67 (pBs (n := 1) [mdW G a (fla x) hi sl sv r o k t m e w tx (upd cl rd (-1)) hl tl sp rd] [0] [] rfl (by decide)) (kc' := 0) (ks' := 0) rfl rfl (rwI (ws' := (bl [mdW G a (fla x) hi sl sv r o k t m e w tx (upd cl rd (-1)) hl tl (sp + 1) rd])) (pBs (n := 1) [mdW G a (fla x) hi sl sv r o k t m e w tx (upd cl rd (-1)) hl tl (sp + 1) rd] [0] [] rfl (by decide)).symm ?_)
    refine V.istore_n (lv' := [some (.ref (a 0)), some (.int (nI (0))), some (.int (nI (0))), some (.int (nI (pv (txc tl tx sp))))]) E dX5_readsColour_70 rfl (Nat.le_of_ble_eq_true rfl) rfl rfl ?_
    refine V.iload_n E dX5_readsColour_71 rfl rfl ?_
    refine V.bipush (v := (-6 : Int32)) E dX5_readsColour_72 (by decide) ?_
    refine V.icmp_ne (tgt := 79) E dX5_readsColour_74 (by decide) (fun q_74 => ?_) (fun q_74 => ?_)
    · refine V.bipush (v := nI (16)) E dX5_readsColour_79 (by decide) ?_
      refine V.iload_n E dX5_readsColour_81 rfl rfl ?_
      refine V.imulN E  dX5_readsColour_82 ?_
      refine V.iload_n E dX5_readsColour_83 rfl rfl ?_
      refine V.iaddN E  dX5_readsColour_84 ?_
      refine V.istore_n (lv' := [some (.ref (a 0)), some (.int (nI (0 + (pv (txc tl tx sp))))), some (.int (nI (0))), some (.int (nI (pv (txc tl tx sp))))]) E dX5_readsColour_85 rfl (Nat.le_of_ble_eq_true rfl) rfl rfl ?_
      refine V.iincN (lv' := [some (.ref (a 0)), some (.int (nI (0 + (pv (txc tl tx sp))))), some (.int (nI (1))), some (.int (nI (pv (txc tl tx sp))))]) E dX5_readsColour_86 rfl (Nat.le_of_ble_eq_true rfl) rfl rfl ?_
      refine V.goto (tgt := 61) E dX5_readsColour_89 (by decide) ?_
      refine V.iload_n E dX5_readsColour_61 rfl rfl ?_
      refine V.iconst (v := nI (3)) E dX5_readsColour_62 (by decide) ?_
      refine V.icmp_geN (tgt := 92) E (by omega) (by omega) dX5_readsColour_63 (by decide) (fun q_63 => absurd q_63 (by decide)) (fun q_63 => ?_)
      refine V.aload_n E dX5_readsColour_66 rfl rfl ?_
      refine V.callV (C := RX5) E (c_X5_readsPart_t G a hi sl sv r o k t m e w tx (upd cl rd (-1)) hl tl (sp + 1) rd x (ht) (by have := ht.1; omega) (h1)) (bl []) [] 0 5 rfl rfl rfl gX5_readsColour_X5_readsPart rfl ⟨rfl, hd_X5_readsPart⟩ ⟨⟨Nat.le_of_ble_eq_true rfl, Nat.le_of_ble_eq_true rfl⟩, Nat.le_of_ble_eq_true rfl, Nat.le_of_ble_eq_true rfl⟩ rfl (Nat.le_of_ble_eq_true rfl) rfl dX5_readsColour_67 (pBs (n := 1) [mdW G a (fla x) hi sl sv r o k t m e w tx (upd cl rd (-1)) hl tl (sp + 1) rd] [0] [] rfl (by decide)) (kc' := 0) (ks' := 0) rfl rfl (rwI (ws' := (bl [mdW G a (fla x) hi sl sv r o k t m e w tx (upd cl rd (-1)) hl tl ((sp + 1) + 1) rd])) (pBs (n := 1) [mdW G a (fla x) hi sl sv r o k t m e w tx (upd cl rd (-1)) hl tl ((sp + 1) + 1) rd] [0] [] rfl (by decide)).symm ?_)
      refine V.istore_n (lv' := [some (.ref (a 0)), some (.int (nI (0 + (pv (txc tl tx sp))))), some (.int (nI (1))), some (.int (nI (pv (txc tl tx (sp + 1)))))]) E dX5_readsColour_70 rfl (Nat.le_of_ble_eq_true rfl) rfl rfl ?_
      refine V.iload_n E dX5_readsColour_71 rfl rfl ?_
      refine V.bipush (v := (-6 : Int32)) E dX5_readsColour_72 (by decide) ?_
      refine V.icmp_ne (tgt := 79) E dX5_readsColour_74 (by decide) (fun q_74 => ?_) (fun q_74 => ?_)
      · refine V.bipush (v := nI (16)) E dX5_readsColour_79 (by decide) ?_
        refine V.iload_n E dX5_readsColour_81 rfl rfl ?_
        refine V.imulN E  dX5_readsColour_82 ?_
        refine V.iload_n E dX5_readsColour_83 rfl rfl ?_
        refine V.iaddN E  dX5_readsColour_84 ?_
        refine V.istore_n (lv' := [some (.ref (a 0)), some (.int (nI ((16 * (0 + (pv (txc tl tx sp)))) + (pv (txc tl tx (sp + 1)))))), some (.int (nI (1))), some (.int (nI (pv (txc tl tx (sp + 1)))))]) E dX5_readsColour_85 rfl (Nat.le_of_ble_eq_true rfl) rfl rfl ?_
        refine V.iincN (lv' := [some (.ref (a 0)), some (.int (nI ((16 * (0 + (pv (txc tl tx sp)))) + (pv (txc tl tx (sp + 1)))))), some (.int (nI (2))), some (.int (nI (pv (txc tl tx (sp + 1)))))]) E dX5_readsColour_86 rfl (Nat.le_of_ble_eq_true rfl) rfl rfl ?_
        refine V.goto (tgt := 61) E dX5_readsColour_89 (by decide) ?_
        refine V.iload_n E dX5_readsColour_61 rfl rfl ?_
        refine V.iconst (v := nI (3)) E dX5_readsColour_62 (by decide) ?_
        refine V.icmp_geN (tgt := 92) E (by omega) (by omega) dX5_readsColour_63 (by decide) (fun q_63 => absurd q_63 (by decide)) (fun q_63 => ?_)
        refine V.aload_n E dX5_readsColour_66 rfl rfl ?_
        refine V.callV (C := RX5) E (c_X5_readsPart_f G a hi sl sv r o k t m e w tx (upd cl rd (-1)) hl tl ((sp + 1) + 1) rd x (ht) (by have := ht.1; omega) (h2)) (bl []) [] 0 5 rfl rfl rfl gX5_readsColour_X5_readsPart rfl ⟨rfl, hd_X5_readsPart⟩ ⟨⟨Nat.le_of_ble_eq_true rfl, Nat.le_of_ble_eq_true rfl⟩, Nat.le_of_ble_eq_true rfl, Nat.le_of_ble_eq_true rfl⟩ rfl (Nat.le_of_ble_eq_true rfl) rfl dX5_readsColour_67 (pBs (n := 1) [mdW G a (fla x) hi sl sv r o k t m e w tx (upd cl rd (-1)) hl tl ((sp + 1) + 1) rd] [0] [] rfl (by decide)) (kc' := 0) (ks' := 0) rfl rfl (rwI (ws' := (bl [mdW G a (fla x) hi sl sv r o k t m e w tx (upd cl rd (-1)) hl tl ((sp + 1) + 1) rd])) (pBs (n := 1) [mdW G a (fla x) hi sl sv r o k t m e w tx (upd cl rd (-1)) hl tl ((sp + 1) + 1) rd] [0] [] rfl (by decide)).symm ?_)
        refine V.istore_n (lv' := [some (.ref (a 0)), some (.int (nI ((16 * (0 + (pv (txc tl tx sp)))) + (pv (txc tl tx (sp + 1)))))), some (.int (nI (2))), some (.int ((-6 : Int32)))]) E dX5_readsColour_70 rfl (Nat.le_of_ble_eq_true rfl) rfl rfl ?_
        refine V.iload_n E dX5_readsColour_71 rfl rfl ?_
        refine V.bipush (v := (-6 : Int32)) E dX5_readsColour_72 (by decide) ?_
        refine V.icmp_ne (tgt := 79) E dX5_readsColour_74 (by decide) (fun q_74 => ?_) (fun q_74 => ?_)
        · exact absurd rfl q_74
        · refine V.iconst (v := nI (0)) E dX5_readsColour_77 (by decide) ?_
          refine V.topN (b := bN false) (rfl) ?_
          exact hend _ _ _ _ dX5_readsColour_78 (nrB _) ⟨rfl, rfl⟩
      · exact absurd q_74 (pv_6 h1)
    · exact absurd q_74 (pv_6 h0)
  · refine V.aload_n E dX5_readsColour_21 rfl rfl ?_
    refine V.getf (C := RX5) (T := TX5) (N := 17) (ref := "GlassSpillModel") E 0 5 12 (by decide +kernel) rfl rfl (by decide) (by decide +kernel) rfl rfl dX5_readsColour_22 ?_
    refine V.aload_n E dX5_readsColour_25 rfl rfl ?_
    refine V.getf (C := RX5) (T := TX5) (N := 17) (ref := "GlassSpillModel") E 0 5 14 (by decide +kernel) rfl rfl (by decide) (by decide +kernel) rfl rfl dX5_readsColour_26 ?_
    refine V.ialdN (v := nI (tx sp)) E 12 rfl ((by have := ht.1; omega)) (by decide) (rfl) dX5_readsColour_29 ?_
    refine V.bipush (v := nI (46)) E dX5_readsColour_30 (by decide) ?_
    refine V.icmp_neN (tgt := 57) E (Nat.lt_trans (ht.2 sp (by have := ht.1; omega)) (by decide)) (by decide) dX5_readsColour_32 (by decide) (fun q_32 => ?_) (fun q_32 => ?_)
    · refine V.iconst (v := nI (0)) E dX5_readsColour_57 (by decide) ?_
      refine V.istore_n (lv' := [some (.ref (a 0)), some (.int (nI (0))), none, none]) E dX5_readsColour_58 rfl (Nat.le_of_ble_eq_true rfl) rfl rfl ?_
      refine V.iconst (v := nI (0)) E dX5_readsColour_59 (by decide) ?_
      refine V.istore_n (lv' := [some (.ref (a 0)), some (.int (nI (0))), some (.int (nI (0))), none]) E dX5_readsColour_60 rfl (Nat.le_of_ble_eq_true rfl) rfl rfl ?_
      refine V.iload_n E dX5_readsColour_61 rfl rfl ?_
      refine V.iconst (v := nI (3)) E dX5_readsColour_62 (by decide) ?_
      refine V.icmp_geN (tgt := 92) E (by omega) (by omega) dX5_readsColour_63 (by decide) (fun q_63 => absurd q_63 (by decide)) (fun q_63 => ?_)
      refine V.aload_n E dX5_readsColour_66 rfl rfl ?_
      refine V.callV (C := RX5) E (c_X5_readsPart_t G a hi sl sv r o k t m e w tx (upd cl rd (-1)) hl tl sp rd x (ht) (by have := ht.1; omega) (h0)) (bl []) [] 0 5 rfl rfl rfl gX5_readsColour_X5_readsPart rfl ⟨rfl, hd_X5_readsPart⟩ ⟨⟨Nat.le_of_ble_eq_true rfl, Nat.le_of_ble_eq_true rfl⟩, Nat.le_of_ble_eq_true rfl, Nat.le_of_ble_eq_true rfl⟩ rfl (Nat.le_of_ble_eq_true rfl) rfl dX5_readsColour_67 (pBs (n := 1) [mdW G a (fla x) hi sl sv r o k t m e w tx (upd cl rd (-1)) hl tl sp rd] [0] [] rfl (by decide)) (kc' := 0) (ks' := 0) rfl rfl (rwI (ws' := (bl [mdW G a (fla x) hi sl sv r o k t m e w tx (upd cl rd (-1)) hl tl (sp + 1) rd])) (pBs (n := 1) [mdW G a (fla x) hi sl sv r o k t m e w tx (upd cl rd (-1)) hl tl (sp + 1) rd] [0] [] rfl (by decide)).symm ?_)
      refine V.istore_n (lv' := [some (.ref (a 0)), some (.int (nI (0))), some (.int (nI (0))), some (.int (nI (pv (txc tl tx sp))))]) E dX5_readsColour_70 rfl (Nat.le_of_ble_eq_true rfl) rfl rfl ?_
      refine V.iload_n E dX5_readsColour_71 rfl rfl ?_
      refine V.bipush (v := (-6 : Int32)) E dX5_readsColour_72 (by decide) ?_
      refine V.icmp_ne (tgt := 79) E dX5_readsColour_74 (by decide) (fun q_74 => ?_) (fun q_74 => ?_)
      · refine V.bipush (v := nI (16)) E dX5_readsColour_79 (by decide) ?_
        refine V.iload_n E dX5_readsColour_81 rfl rfl ?_
        refine V.imulN E  dX5_readsColour_82 ?_
        refine V.iload_n E dX5_readsColour_83 rfl rfl ?_
        refine V.iaddN E  dX5_readsColour_84 ?_
        refine V.istore_n (lv' := [some (.ref (a 0)), some (.int (nI (0 + (pv (txc tl tx sp))))), some (.int (nI (0))), some (.int (nI (pv (txc tl tx sp))))]) E dX5_readsColour_85 rfl (Nat.le_of_ble_eq_true rfl) rfl rfl ?_
        refine V.iincN (lv' := [some (.ref (a 0)), some (.int (nI (0 + (pv (txc tl tx sp))))), some (.int (nI (1))), some (.int (nI (pv (txc tl tx sp))))]) E dX5_readsColour_86 rfl (Nat.le_of_ble_eq_true rfl) rfl rfl ?_
        refine V.goto (tgt := 61) E dX5_readsColour_89 (by decide) ?_
        refine V.iload_n E dX5_readsColour_61 rfl rfl ?_
        refine V.iconst (v := nI (3)) E dX5_readsColour_62 (by decide) ?_
        refine V.icmp_geN (tgt := 92) E (by omega) (by omega) dX5_readsColour_63 (by decide) (fun q_63 => absurd q_63 (by decide)) (fun q_63 => ?_)
        refine V.aload_n E dX5_readsColour_66 rfl rfl ?_
        refine V.callV (C := RX5) E (c_X5_readsPart_t G a hi sl sv r o k t m e w tx (upd cl rd (-1)) hl tl (sp + 1) rd x (ht) (by have := ht.1; omega) (h1)) (bl []) [] 0 5 rfl rfl rfl gX5_readsColour_X5_readsPart rfl ⟨rfl, hd_X5_readsPart⟩ ⟨⟨Nat.le_of_ble_eq_true rfl, Nat.le_of_ble_eq_true rfl⟩, Nat.le_of_ble_eq_true rfl, Nat.le_of_ble_eq_true rfl⟩ rfl (Nat.le_of_ble_eq_true rfl) rfl dX5_readsColour_67 (pBs (n := 1) [mdW G a (fla x) hi sl sv r o k t m e w tx (upd cl rd (-1)) hl tl (sp + 1) rd] [0] [] rfl (by decide)) (kc' := 0) (ks' := 0) rfl rfl (rwI (ws' := (bl [mdW G a (fla x) hi sl sv r o k t m e w tx (upd cl rd (-1)) hl tl ((sp + 1) + 1) rd])) (pBs (n := 1) [mdW G a (fla x) hi sl sv r o k t m e w tx (upd cl rd (-1)) hl tl ((sp + 1) + 1) rd] [0] [] rfl (by decide)).symm ?_)
        refine V.istore_n (lv' := [some (.ref (a 0)), some (.int (nI (0 + (pv (txc tl tx sp))))), some (.int (nI (1))), some (.int (nI (pv (txc tl tx (sp + 1)))))]) E dX5_readsColour_70 rfl (Nat.le_of_ble_eq_true rfl) rfl rfl ?_
        refine V.iload_n E dX5_readsColour_71 rfl rfl ?_
        refine V.bipush (v := (-6 : Int32)) E dX5_readsColour_72 (by decide) ?_
        refine V.icmp_ne (tgt := 79) E dX5_readsColour_74 (by decide) (fun q_74 => ?_) (fun q_74 => ?_)
        · refine V.bipush (v := nI (16)) E dX5_readsColour_79 (by decide) ?_
          refine V.iload_n E dX5_readsColour_81 rfl rfl ?_
          refine V.imulN E  dX5_readsColour_82 ?_
          refine V.iload_n E dX5_readsColour_83 rfl rfl ?_
          refine V.iaddN E  dX5_readsColour_84 ?_
          refine V.istore_n (lv' := [some (.ref (a 0)), some (.int (nI ((16 * (0 + (pv (txc tl tx sp)))) + (pv (txc tl tx (sp + 1)))))), some (.int (nI (1))), some (.int (nI (pv (txc tl tx (sp + 1)))))]) E dX5_readsColour_85 rfl (Nat.le_of_ble_eq_true rfl) rfl rfl ?_
          refine V.iincN (lv' := [some (.ref (a 0)), some (.int (nI ((16 * (0 + (pv (txc tl tx sp)))) + (pv (txc tl tx (sp + 1)))))), some (.int (nI (2))), some (.int (nI (pv (txc tl tx (sp + 1)))))]) E dX5_readsColour_86 rfl (Nat.le_of_ble_eq_true rfl) rfl rfl ?_
          refine V.goto (tgt := 61) E dX5_readsColour_89 (by decide) ?_
          refine V.iload_n E dX5_readsColour_61 rfl rfl ?_
          refine V.iconst (v := nI (3)) E dX5_readsColour_62 (by decide) ?_
          refine V.icmp_geN (tgt := 92) E (by omega) (by omega) dX5_readsColour_63 (by decide) (fun q_63 => absurd q_63 (by decide)) (fun q_63 => ?_)
          refine V.aload_n E dX5_readsColour_66 rfl rfl ?_
          refine V.callV (C := RX5) E (c_X5_readsPart_f G a hi sl sv r o k t m e w tx (upd cl rd (-1)) hl tl ((sp + 1) + 1) rd x (ht) (by have := ht.1; omega) (h2)) (bl []) [] 0 5 rfl rfl rfl gX5_readsColour_X5_readsPart rfl ⟨rfl, hd_X5_readsPart⟩ ⟨⟨Nat.le_of_ble_eq_true rfl, Nat.le_of_ble_eq_true rfl⟩, Nat.le_of_ble_eq_true rfl, Nat.le_of_ble_eq_true rfl⟩ rfl (Nat.le_of_ble_eq_true rfl) rfl dX5_readsColour_67 (pBs (n := 1) [mdW G a (fla x) hi sl sv r o k t m e w tx (upd cl rd (-1)) hl tl ((sp + 1) + 1) rd] [0] [] rfl (by decide)) (kc' := 0) (ks' := 0) rfl rfl (rwI (ws' := (bl [mdW G a (fla x) hi sl sv r o k t m e w tx (upd cl rd (-1)) hl tl ((sp + 1) + 1) rd])) (pBs (n := 1) [mdW G a (fla x) hi sl sv r o k t m e w tx (upd cl rd (-1)) hl tl ((sp + 1) + 1) rd] [0] [] rfl (by decide)).symm ?_)
          refine V.istore_n (lv' := [some (.ref (a 0)), some (.int (nI ((16 * (0 + (pv (txc tl tx sp)))) + (pv (txc tl tx (sp + 1)))))), some (.int (nI (2))), some (.int ((-6 : Int32)))]) E dX5_readsColour_70 rfl (Nat.le_of_ble_eq_true rfl) rfl rfl ?_
          refine V.iload_n E dX5_readsColour_71 rfl rfl ?_
          refine V.bipush (v := (-6 : Int32)) E dX5_readsColour_72 (by decide) ?_
          refine V.icmp_ne (tgt := 79) E dX5_readsColour_74 (by decide) (fun q_74 => ?_) (fun q_74 => ?_)
          · exact absurd rfl q_74
          · refine V.iconst (v := nI (0)) E dX5_readsColour_77 (by decide) ?_
            refine V.topN (b := bN false) (rfl) ?_
            exact hend _ _ _ _ dX5_readsColour_78 (nrB _) ⟨rfl, rfl⟩
        · exact absurd q_74 (pv_6 h1)
      · exact absurd q_74 (pv_6 h0)
    · exact absurd ⟨q_18, q_32⟩ hd
/-- the fault of a text from place i on: px colours read, pt parts of the next one -/
def ff (tl : Nat) (tx : Nat → Nat) : Nat → Nat → Nat → Nat → Int32
  | 0, _, px, pt => if px = 0 ∨ 0 < pt then nI tl else -6
  | f + 1, i, px, pt => if px = 8 then nI i else if isP (tx i) = true then (if pt = 2 then ff tl tx f (i + 1) (px + 1) 0 else ff tl tx f (i + 1) px (pt + 1)) else if tx i = 46 ∧ pt = 0 then ff tl tx f (i + 1) (px + 1) 0 else nI i
theorem ff_s {tl : Nat} {tx : Nat → Nat} {i px pt : Nat} (h : i < tl) : ff tl tx (tl - i) i px pt = if px = 8 then nI i else if isP (tx i) = true then (if pt = 2 then ff tl tx (tl - (i + 1)) (i + 1) (px + 1) 0 else ff tl tx (tl - (i + 1)) (i + 1) px (pt + 1)) else if tx i = 46 ∧ pt = 0 then ff tl tx (tl - (i + 1)) (i + 1) (px + 1) 0 else nI i := by
  rw [show tl - i = (tl - (i + 1)) + 1 by omega, ff]
theorem ff_e {tl : Nat} {tx : Nat → Nat} {i px pt : Nat} (h : ¬ i < tl) : ff tl tx (tl - i) i px pt = if px = 0 ∨ 0 < pt then nI tl else -6 := by
  rw [show tl - i = 0 by omega, ff]
abbrev fau (tl : Nat) (tx : Nat → Nat) : Int32 := ff tl tx (tl - 0) 0 0 0
section
variable {tl : Nat} {tx : Nat → Nat} {s px : Nat}
theorem ff_dot (h8 : px ≠ 8) (h : s < tl ∧ tx s = 46) : ff tl tx (tl - s) s px 0 = ff tl tx (tl - (s + 1)) (s + 1) (px + 1) 0 := by
  rw [ff_s h.1, if_neg h8, if_neg (by rw [h.2]; decide), if_pos ⟨h.2, rfl⟩]
theorem ff_p {pt : Nat} (h8 : px ≠ 8) (h : isP (txc tl tx s) = true) (hp : pt < 2) : ff tl tx (tl - s) s px pt = ff tl tx (tl - (s + 1)) (s + 1) px (pt + 1) := by
  have e := isP_in h
  rw [txc_i e] at h
  rw [ff_s e, if_neg h8, if_pos h, if_neg (by omega)]
theorem ff_p2 (h8 : px ≠ 8) (h : isP (txc tl tx s) = true) : ff tl tx (tl - s) s px 2 = ff tl tx (tl - (s + 1)) (s + 1) (px + 1) 0 := by
  have e := isP_in h
  rw [txc_i e] at h
  rw [ff_s e, if_neg h8, if_pos h, if_pos rfl]
theorem ff_no {pt : Nat} (h8 : px ≠ 8) (h : isP (txc tl tx s) = false) (hs : s ≤ tl) (h0 : 0 < pt ∨ ¬ (s < tl ∧ tx s = 46) ∧ (s < tl ∨ px = 0)) : ff tl tx (tl - s) s px pt = nI s := by
  by_cases e : s < tl
  · rw [txc_i e] at h
    rw [ff_s e, if_neg h8, if_neg (by rw [h]; decide), if_neg (fun z => by rcases h0 with h0 | h0; omega; exact h0.1 ⟨e, z.1⟩)]
  · rw [ff_e e, if_pos (by rcases h0 with h0 | h0; exact .inr h0; exact .inl (by omega)), show s = tl by omega]
end
/-- where the colour j starts; a colour's characters; its value -/
def stp (tx : Nat → Nat) : Nat → Nat
  | 0 => 0
  | j + 1 => if tx (stp tx j) = 46 then stp tx j + 1 else stp tx j + 3
def okC (tl : Nat) (tx : Nat → Nat) (s : Nat) : Prop := (s < tl ∧ tx s = 46) ∨ (isP (txc tl tx s) = true ∧ isP (txc tl tx (s + 1)) = true ∧ isP (txc tl tx (s + 1 + 1)) = true)
def cvI (tl : Nat) (tx : Nat → Nat) (s : Nat) : Int32 := if tx s = 46 then -1 else nI (cv3 tl tx s)
theorem stp_d {tl : Nat} {tx : Nat → Nat} {j : Nat} (h : stp tx j < tl ∧ tx (stp tx j) = 46) : stp tx (j + 1) = stp tx j + 1 := by rw [stp, if_pos h.2]
theorem notdot {tl : Nat} {tx : Nat → Nat} {s : Nat} (h : isP (txc tl tx s) = true) : ¬ tx s = 46 := fun e => absurd ((dotP e).symm.trans h) (by decide)
theorem stp_3 {tl : Nat} {tx : Nat → Nat} {j : Nat} (h : isP (txc tl tx (stp tx j)) = true) : stp tx (j + 1) = stp tx j + 1 + 1 + 1 := by rw [stp, if_neg (notdot h)]
/-- rd colours are read well, cl their values, sp the place behind them -/
def Rd (tl : Nat) (tx : Nat → Nat) (rd sp : Nat) (cl : Nat → Int32) : Prop := sp = stp tx rd ∧ (∀ j, j < rd → okC tl tx (stp tx j)) ∧ (∀ j, j < rd → cl j = cvI tl tx (stp tx j)) ∧ sp ≤ tl ∧ rd ≤ 8 ∧ fau tl tx = ff tl tx (tl - sp) sp rd 0
section
variable {tl : Nat} {tx : Nat → Nat} {rd s_ : Nat} {c_ : Nat → Int32}
theorem Rd.se (h : Rd tl tx rd s_ c_) : s_ = stp tx rd := h.1
theorem Rd.ok (h : Rd tl tx rd s_ c_) : ∀ j, j < rd → okC tl tx (stp tx j) := h.2.1
theorem Rd.cl (h : Rd tl tx rd s_ c_) : ∀ j, j < rd → c_ j = cvI tl tx (stp tx j) := h.2.2.1
theorem Rd.le (h : Rd tl tx rd s_ c_) : s_ ≤ tl := h.2.2.2.1
theorem Rd.r8 (h : Rd tl tx rd s_ c_) : rd ≤ 8 := h.2.2.2.2.1
theorem Rd.fe (h : Rd tl tx rd s_ c_) : fau tl tx = ff tl tx (tl - s_) s_ rd 0 := h.2.2.2.2.2
end
theorem Rd.zero (tl : Nat) (tx : Nat → Nat) (cl : Nat → Int32) : Rd tl tx 0 0 cl := ⟨rfl, fun j h => absurd h (by omega), fun j h => absurd h (by omega), by omega, by decide, rfl⟩
theorem Rd.dot {tl : Nat} {tx : Nat → Nat} {rd sp : Nat} {cl : Nat → Int32} (h : Rd tl tx rd sp cl) (h8 : rd < 8) (hd : sp < tl ∧ tx sp = 46) : Rd tl tx (rd + 1) (sp + 1) (upd cl rd (-1)) := by
  have e := h.se
  refine ⟨?_, fun j hj => ?_, fun j hj => ?_, hd.1, h8, h.fe.trans (ff_dot (by omega) hd)⟩
  · rw [e] at hd ⊢; exact (stp_d hd).symm
  · by_cases c : j < rd
    · exact h.ok j c
    · rw [show j = rd by omega, ← e]; exact .inl hd
  · by_cases c : j < rd
    · rw [← h.cl j c]; exact if_neg (by omega)
    · rw [show j = rd by omega, ← e]
      exact (if_pos rfl).trans (if_pos hd.2).symm
theorem Rd.three {tl : Nat} {tx : Nat → Nat} {rd sp : Nat} {cl : Nat → Int32} (h : Rd tl tx rd sp cl) (h8 : rd < 8) (h0 : isP (txc tl tx sp) = true) (h1 : isP (txc tl tx (sp + 1)) = true) (h2 : isP (txc tl tx (sp + 1 + 1)) = true) : Rd tl tx (rd + 1) (sp + 1 + 1 + 1) (upd cl rd (nI (cv3 tl tx sp))) := by
  have e := h.se
  have h8 : rd ≠ 8 := by omega
  refine ⟨?_, fun j hj => ?_, fun j hj => ?_, isP_in h2, by have := h.r8; omega, h.fe.trans ((ff_p h8 h0 (by decide)).trans ((ff_p h8 h1 (by decide)).trans (ff_p2 h8 h2)))⟩
  · rw [e] at h0 ⊢; exact (stp_3 h0).symm
  · by_cases c : j < rd
    · exact h.ok j c
    · rw [show j = rd by omega, ← e]; exact .inr ⟨h0, h1, h2⟩
  · by_cases c : j < rd
    · rw [← h.cl j c]; exact if_neg (by omega)
    · rw [show j = rd by omega, ← e]
      exact (if_pos rfl).trans (if_neg (notdot h0)).symm
/-- a text without a fault: n colours -/
def Gd (tl : Nat) (tx : Nat → Nat) (n : Nat) : Prop := n ≤ 8 ∧ stp tx n = tl ∧ ∀ j, j < n → okC tl tx (stp tx j)
abbrev FG : Type := Bool × Nat × Nat × (Nat → Int32)
def Fi (tl : Nat) (tx : Nat → Nat) (g : FG) : Prop := Rd tl tx g.2.2.1 g.2.1 g.2.2.2 ∧ (g.1 = true → g.2.2.1 < 8 ∧ (g.2.1 < tl ∨ g.2.2.1 = 0)) ∧ (g.1 = false → 0 < g.2.2.1 ∧ (g.2.1 = tl ∨ g.2.2.1 = 8))
theorem Fi.nx {tl : Nat} {tx : Nat → Nat} {rd sp : Nat} {cl : Nat → Int32} (h : Rd tl tx (rd + 1) sp cl) : (sp < tl → rd + 1 < 8 → Fi tl tx (true, sp, rd + 1, cl)) ∧ ((tl ≤ sp ∨ 8 ≤ rd + 1) → Fi tl tx (false, sp, rd + 1, cl)) := by
  refine ⟨fun h1 h2 => ⟨h, fun _ => ⟨h2, .inl h1⟩, fun e => Bool.noConfusion (show true = false from e)⟩, fun h1 => ⟨h, fun e => Bool.noConfusion (show false = true from e), fun _ => ⟨Nat.succ_pos _, ?_⟩⟩⟩
  rcases h1 with h1 | h1
  · exact .inl (Nat.le_antisymm h.le h1)
  · exact .inr (Nat.le_antisymm h.r8 h1)
def Fz (tl : Nat) (tx : Nat → Nat) (g : FG) : Prop := fau tl tx = -6 → Gd tl tx g.2.2.1 ∧ ∀ j, j < g.2.2.1 → g.2.2.2 j = cvI tl tx (stp tx j)
theorem nI_6 {n : Nat} (h : n ≤ 48) : ¬ nI n = -6 := by
  rw [i_eq, nI_toInt (by omega), show (-6 : Int32).toInt = -6 from rfl]
  omega
theorem Fz.bad {tl : Nat} {tx : Nat → Nat} {g : FG} {n : Nat} (h : fau tl tx = nI n) (hn : n ≤ 48) : Fz tl tx g := fun e => absurd (h.symm.trans e) (nI_6 hn)
theorem Fz.good {tl : Nat} {tx : Nat → Nat} {g : FG} (h : Rd tl tx g.2.2.1 g.2.1 g.2.2.2) (e : g.2.1 = tl) : Fz tl tx g := fun _ => ⟨⟨h.r8, h.se.symm.trans e, h.ok⟩, h.cl⟩
theorem Fi.e1 {tl : Nat} {tx : Nat → Nat} {g : FG} (h : Fi tl tx g) (f : g.1 = false) (e : g.2.1 = tl) : fau tl tx = -6 := by
  have h0 := (h.2.2 f).1
  rw [h.1.fe, ff_e (by omega), if_neg (by omega)]
theorem Fi.e2 {tl : Nat} {tx : Nat → Nat} {g : FG} (h : Fi tl tx g) (f : g.1 = false) (e : g.2.1 ≠ tl) : fau tl tx = nI g.2.1 := by
  have h0 := (h.2.2 f).2
  have h1 := h.1.le
  rw [h.1.fe, ff_s (by omega), if_pos (by omega)]
theorem Fi.n0 {tl : Nat} {tx : Nat → Nat} {g : FG} (h : Fi tl tx g) (f : g.1 = true) (hd : ¬ (g.2.1 < tl ∧ tx g.2.1 = 46)) (hp : isP (txc tl tx g.2.1) = false) : fau tl tx = nI g.2.1 :=
  h.1.fe.trans (ff_no (by have := (h.2.1 f).1; omega) hp h.1.le (.inr ⟨hd, (h.2.1 f).2⟩))
theorem Fi.n1 {tl : Nat} {tx : Nat → Nat} {g : FG} (h : Fi tl tx g) (f : g.1 = true) (h0 : isP (txc tl tx g.2.1) = true) (hp : isP (txc tl tx (g.2.1 + 1)) = false) : fau tl tx = nI (g.2.1 + 1) :=
  have h8 : g.2.2.1 ≠ 8 := by have := (h.2.1 f).1; omega
  h.1.fe.trans ((ff_p h8 h0 (by decide)).trans (ff_no h8 hp (isP_in h0) (.inl (by decide))))
theorem Fi.n2 {tl : Nat} {tx : Nat → Nat} {g : FG} (h : Fi tl tx g) (f : g.1 = true) (h0 : isP (txc tl tx g.2.1) = true) (h1 : isP (txc tl tx (g.2.1 + 1)) = true) (hp : isP (txc tl tx (g.2.1 + 1 + 1)) = false) : fau tl tx = nI (g.2.1 + 1 + 1) :=
  have h8 : g.2.2.1 ≠ 8 := by have := (h.2.1 f).1; omega
  h.1.fe.trans ((ff_p h8 h0 (by decide)).trans ((ff_p h8 h1 (by decide)).trans (ff_no h8 hp (isP_in h1) (.inl (by decide)))))
abbrev rm_c_X5_fault : Room := { frames := 3, cells := 0, slots := 0, locals := 70 }
theorem hd_X5_fault : yX5_fault.cls ≠ "java/lang/invoke/MethodHandle" ∧ yX5_fault.cls ≠ "java/lang/invoke/VarHandle" ∧ (parseMethodDescriptor yX5_fault.desc).map (fun d => d.parameters.length) = some 0 := by decide +kernel
set_option maxRecDepth 100000 in
set_option maxHeartbeats 8000000 in
theorem c_X5_fault (G : VC) (a : Nat → Nat) (hi : Nat → Nat) (sl : Nat → Nat) (sv : Nat → Nat) (r : Nat → Nat) (o : Nat → Nat) (k : Nat → Nat) (t : Nat → Nat) (m : Nat → Nat) (e : Nat → Nat) (w : Nat → Nat) (tx : Nat → Nat) (cl : Nat → Int32) (hl : Nat) (tl : Nat) (sp : Nat) (rd : Nat) (x : SC) (ht : TI tl tx) : Ctr yX5_fault wsX5_fault rm_c_X5_fault G [.ref (a 0)] (bl [mdW G a (fla x) hi sl sv r o k t m e w tx cl hl tl sp rd]) (fun v9_ u9_ => ∃ fg : FG, u9_ = (bl [mdW G a (fla x) hi sl sv r o k t m e w tx fg.2.2.2 hl tl fg.2.1 fg.2.2.1]) ∧ v9_ = some (.int (fau tl tx)) ∧ (Fz tl tx fg)) := by
  refine Ctr.int (cc := cX5_fault) (maxL := 2) (ret := (some .int)) (lv0 := [some (.ref (a 0)), none]) (by decide) rfl rfl rfl (Nat.le_of_ble_eq_true rfl) rfl (fun A X E hend => ?_)
  refine V.aload_n E dX5_fault_0 rfl rfl ?_
  refine V.iconst (v := nI (0)) E dX5_fault_1 (by decide) ?_
  refine V.putf (C := RX5) (T := TX5) (N := 17) (ref := "GlassSpillModel") (ws' := (bl [mdW G a (fla x) hi sl sv r o k t m e w tx cl hl tl 0 rd])) E 0 5 14 (by decide +kernel) tyX5_ok nmX5 rfl rfl (by decide) (by decide +kernel) rfl rfl rfl rfl (Nat.le_of_ble_eq_true rfl) dX5_fault_2 rfl ?_
  refine V.aload_n E dX5_fault_5 rfl rfl ?_
  refine V.iconst (v := nI (0)) E dX5_fault_6 (by decide) ?_
  refine V.putf (C := RX5) (T := TX5) (N := 17) (ref := "GlassSpillModel") (ws' := (bl [mdW G a (fla x) hi sl sv r o k t m e w tx cl hl tl 0 0])) E 0 5 16 (by decide +kernel) tyX5_ok nmX5 rfl rfl (by decide) (by decide +kernel) rfl rfl rfl rfl (Nat.le_of_ble_eq_true rfl) dX5_fault_7 rfl ?_
  refine V.iconst (v := nI (1)) E dX5_fault_10 (by decide) ?_
  refine V.istore_n (lv' := [some (.ref (a 0)), some (.int (nI (1)))]) E dX5_fault_11 rfl (Nat.le_of_ble_eq_true rfl) rfl rfl ?_
  show V G A X rm_c_X5_fault (bl [mdW G a (fla x) hi sl sv r o k t m e w tx (((true, 0, 0, cl)).2.2.2) hl tl (((true, 0, 0, cl)).2.1) (((true, 0, 0, cl)).2.2.1)]) 0 0 12 [some (.ref (a 0)), some (.int (nI (bN ((true, 0, 0, cl)).1)))] []
  refine loopM (P := fun gg : FG => (Fi tl tx gg) → V G A X rm_c_X5_fault (bl [mdW G a (fla x) hi sl sv r o k t m e w tx gg.2.2.2 hl tl gg.2.1 gg.2.2.1]) 0 0 12 [some (.ref (a 0)), some (.int (nI (bN gg.1)))] []) (fun gg => 8 - gg.2.2.1 + bN gg.1) (fun gg ih_12 hg_12 => ?_) ((true, 0, 0, cl)) (⟨Rd.zero tl tx cl, fun _ => ⟨(by decide : 0 < 8), .inr rfl⟩, fun e => Bool.noConfusion (show true = false from e)⟩)
  refine V.iload_n E dX5_fault_12 rfl rfl ?_
  refine V.if_eqB (tgt := 57) E dX5_fault_13 (by decide) (fun q_13 => ?_) (fun q_13 => ?_)
  · refine V.aload_n E dX5_fault_57 rfl rfl ?_
    refine V.getf (C := RX5) (T := TX5) (N := 17) (ref := "GlassSpillModel") E 0 5 14 (by decide +kernel) rfl rfl (by decide) (by decide +kernel) rfl rfl dX5_fault_58 ?_
    refine V.aload_n E dX5_fault_61 rfl rfl ?_
    refine V.getf (C := RX5) (T := TX5) (N := 17) (ref := "GlassSpillModel") E 0 5 13 (by decide +kernel) rfl rfl (by decide) (by decide +kernel) rfl rfl dX5_fault_62 ?_
    refine V.icmp_neN (tgt := 73) E (by have := hg_12.1.le; have := ht.1; omega) (by have := ht.1; omega) dX5_fault_65 (by decide) (fun q_65 => ?_) (fun q_65 => ?_)
    · refine V.aload_n E dX5_fault_73 rfl rfl ?_
      refine V.getf (C := RX5) (T := TX5) (N := 17) (ref := "GlassSpillModel") E 0 5 14 (by decide +kernel) rfl rfl (by decide) (by decide +kernel) rfl rfl dX5_fault_74 ?_
      refine V.top (y := fau tl tx) ((hg_12.e2 q_13 q_65).symm) ?_
      exact hend _ _ _ _ dX5_fault_77 (nrI _) ⟨gg, rfl, rfl, Fz.bad (hg_12.e2 q_13 q_65) (by have := hg_12.1.le; have := ht.1; omega)⟩
    · refine V.bipush (v := (-6 : Int32)) E dX5_fault_68 (by decide) ?_
      refine V.goto (tgt := 77) E dX5_fault_70 (by decide) ?_
      refine V.top (y := fau tl tx) ((hg_12.e1 q_13 q_65).symm) ?_
      exact hend _ _ _ _ dX5_fault_77 (nrI _) ⟨gg, rfl, rfl, Fz.good hg_12.1 q_65⟩
  · have hr8 := (hg_12.2.1 q_13).1
    have hle := hg_12.1.le
    rcases rcC tl tx gg.2.1 with hd | ⟨h0, h1, h2⟩ | ⟨hd, h0⟩ | ⟨h0, h1⟩ | ⟨h0, h1, h2⟩
    · have h48 : gg.2.1 + 1 ≤ 48 := by have := hd.1; have := ht.1; omega
      refine V.aload_n E dX5_fault_16 rfl rfl ?_
      refine V.callV (C := RX5) E (c_X5_readsColour_d G a hi sl sv r o k t m e w tx gg.2.2.2 hl tl gg.2.1 gg.2.2.1 x (ht) (by have := ht.1; omega) (hr8) (hd)) (bl []) [] 0 5 rfl rfl rfl gX5_fault_X5_readsColour rfl ⟨rfl, hd_X5_readsColour⟩ ⟨⟨Nat.le_of_ble_eq_true rfl, Nat.le_of_ble_eq_true rfl⟩, Nat.le_of_ble_eq_true rfl, Nat.le_of_ble_eq_true rfl⟩ rfl (Nat.le_of_ble_eq_true rfl) rfl dX5_fault_17 (pBs (n := 1) [mdW G a (fla x) hi sl sv r o k t m e w tx gg.2.2.2 hl tl gg.2.1 gg.2.2.1] [0] [] rfl (by decide)) (kc' := 0) (ks' := 0) rfl rfl (rwI (ws' := (bl [mdW G a (fla x) hi sl sv r o k t m e w tx (upd gg.2.2.2 gg.2.2.1 (-1)) hl tl (gg.2.1 + 1) (gg.2.2.1 + 1)])) (pBs (n := 1) [mdW G a (fla x) hi sl sv r o k t m e w tx (upd gg.2.2.2 gg.2.2.1 (-1)) hl tl (gg.2.1 + 1) (gg.2.2.1 + 1)] [0] [] rfl (by decide)).symm ?_)
      refine V.if_neB (tgt := 28) E dX5_fault_20 (by decide) (fun q_20 => ?_) (fun q_20 => ?_)
      · refine V.aload_n E dX5_fault_28 rfl rfl ?_
        refine V.getf (C := RX5) (T := TX5) (N := 17) (ref := "GlassSpillModel") E 0 5 14 (by decide +kernel) rfl rfl (by decide) (by decide +kernel) rfl rfl dX5_fault_29 ?_
        refine V.aload_n E dX5_fault_32 rfl rfl ?_
        refine V.getf (C := RX5) (T := TX5) (N := 17) (ref := "GlassSpillModel") E 0 5 13 (by decide +kernel) rfl rfl (by decide) (by decide +kernel) rfl rfl dX5_fault_33 ?_
        refine V.icmp_geN (tgt := 52) E (by omega) (by have := ht.1; omega) dX5_fault_36 (by decide) (fun q_36 => ?_) (fun q_36 => ?_)
        · refine V.iconst (v := nI (0)) E dX5_fault_52 (by decide) ?_
          refine V.istore_n (lv' := [some (.ref (a 0)), some (.int (nI (0)))]) E dX5_fault_53 rfl (Nat.le_of_ble_eq_true rfl) rfl rfl ?_
          refine V.goto (tgt := 12) E dX5_fault_54 (by decide) ?_
          show V G A X rm_c_X5_fault (bl [mdW G a (fla x) hi sl sv r o k t m e w tx (((false, gg.2.1 + 1, gg.2.2.1 + 1, upd gg.2.2.2 gg.2.2.1 (-1))).2.2.2) hl tl (((false, gg.2.1 + 1, gg.2.2.1 + 1, upd gg.2.2.2 gg.2.2.1 (-1))).2.1) (((false, gg.2.1 + 1, gg.2.2.1 + 1, upd gg.2.2.2 gg.2.2.1 (-1))).2.2.1)]) 0 0 12 [some (.ref (a 0)), some (.int (nI (bN ((false, gg.2.1 + 1, gg.2.2.1 + 1, upd gg.2.2.2 gg.2.2.1 (-1))).1)))] []
          exact ih_12 ((false, gg.2.1 + 1, gg.2.2.1 + 1, upd gg.2.2.2 gg.2.2.1 (-1))) (by show 8 - (gg.2.2.1 + 1) + bN false < 8 - gg.2.2.1 + bN gg.1; rw [q_13]; show 8 - (gg.2.2.1 + 1) + 0 < 8 - gg.2.2.1 + 1; omega) ((Fi.nx (hg_12.1.dot hr8 hd)).2 (by first | exact .inl q_36 | exact .inr q_45))
        · refine V.aload_n E dX5_fault_39 rfl rfl ?_
          refine V.getf (C := RX5) (T := TX5) (N := 17) (ref := "GlassSpillModel") E 0 5 16 (by decide +kernel) rfl rfl (by decide) (by decide +kernel) rfl rfl dX5_fault_40 ?_
          refine V.bipush (v := nI (8)) E dX5_fault_43 (by decide) ?_
          refine V.icmp_geN (tgt := 52) E (by omega) (by decide) dX5_fault_45 (by decide) (fun q_45 => ?_) (fun q_45 => ?_)
          · refine V.iconst (v := nI (0)) E dX5_fault_52 (by decide) ?_
            refine V.istore_n (lv' := [some (.ref (a 0)), some (.int (nI (0)))]) E dX5_fault_53 rfl (Nat.le_of_ble_eq_true rfl) rfl rfl ?_
            refine V.goto (tgt := 12) E dX5_fault_54 (by decide) ?_
            show V G A X rm_c_X5_fault (bl [mdW G a (fla x) hi sl sv r o k t m e w tx (((false, gg.2.1 + 1, gg.2.2.1 + 1, upd gg.2.2.2 gg.2.2.1 (-1))).2.2.2) hl tl (((false, gg.2.1 + 1, gg.2.2.1 + 1, upd gg.2.2.2 gg.2.2.1 (-1))).2.1) (((false, gg.2.1 + 1, gg.2.2.1 + 1, upd gg.2.2.2 gg.2.2.1 (-1))).2.2.1)]) 0 0 12 [some (.ref (a 0)), some (.int (nI (bN ((false, gg.2.1 + 1, gg.2.2.1 + 1, upd gg.2.2.2 gg.2.2.1 (-1))).1)))] []
            exact ih_12 ((false, gg.2.1 + 1, gg.2.2.1 + 1, upd gg.2.2.2 gg.2.2.1 (-1))) (by show 8 - (gg.2.2.1 + 1) + bN false < 8 - gg.2.2.1 + bN gg.1; rw [q_13]; show 8 - (gg.2.2.1 + 1) + 0 < 8 - gg.2.2.1 + 1; omega) ((Fi.nx (hg_12.1.dot hr8 hd)).2 (by first | exact .inl q_36 | exact .inr q_45))
          · refine V.iconst (v := nI (1)) E dX5_fault_48 (by decide) ?_
            refine V.goto (tgt := 53) E dX5_fault_49 (by decide) ?_
            refine V.istore_n (lv' := [some (.ref (a 0)), some (.int (nI (1)))]) E dX5_fault_53 rfl (Nat.le_of_ble_eq_true rfl) rfl rfl ?_
            refine V.goto (tgt := 12) E dX5_fault_54 (by decide) ?_
            show V G A X rm_c_X5_fault (bl [mdW G a (fla x) hi sl sv r o k t m e w tx (((true, gg.2.1 + 1, gg.2.2.1 + 1, upd gg.2.2.2 gg.2.2.1 (-1))).2.2.2) hl tl (((true, gg.2.1 + 1, gg.2.2.1 + 1, upd gg.2.2.2 gg.2.2.1 (-1))).2.1) (((true, gg.2.1 + 1, gg.2.2.1 + 1, upd gg.2.2.2 gg.2.2.1 (-1))).2.2.1)]) 0 0 12 [some (.ref (a 0)), some (.int (nI (bN ((true, gg.2.1 + 1, gg.2.2.1 + 1, upd gg.2.2.2 gg.2.2.1 (-1))).1)))] []
            exact ih_12 ((true, gg.2.1 + 1, gg.2.2.1 + 1, upd gg.2.2.2 gg.2.2.1 (-1))) (by show 8 - (gg.2.2.1 + 1) + bN true < 8 - gg.2.2.1 + bN gg.1; rw [q_13]; show 8 - (gg.2.2.1 + 1) + 1 < 8 - gg.2.2.1 + 1; omega) ((Fi.nx (hg_12.1.dot hr8 hd)).1 q_36 q_45)
      · exact absurd q_20 (by decide)
    · have h48 : gg.2.1 + 3 ≤ 48 := by have := isP_in h2; have := ht.1; omega
      refine V.aload_n E dX5_fault_16 rfl rfl ?_
      refine V.callV (C := RX5) E (c_X5_readsColour_t G a hi sl sv r o k t m e w tx gg.2.2.2 hl tl gg.2.1 gg.2.2.1 x (ht) (by have := ht.1; omega) (hr8) (h0) (h1) (h2)) (bl []) [] 0 5 rfl rfl rfl gX5_fault_X5_readsColour rfl ⟨rfl, hd_X5_readsColour⟩ ⟨⟨Nat.le_of_ble_eq_true rfl, Nat.le_of_ble_eq_true rfl⟩, Nat.le_of_ble_eq_true rfl, Nat.le_of_ble_eq_true rfl⟩ rfl (Nat.le_of_ble_eq_true rfl) rfl dX5_fault_17 (pBs (n := 1) [mdW G a (fla x) hi sl sv r o k t m e w tx gg.2.2.2 hl tl gg.2.1 gg.2.2.1] [0] [] rfl (by decide)) (kc' := 0) (ks' := 0) rfl rfl (rwI (ws' := (bl [mdW G a (fla x) hi sl sv r o k t m e w tx (upd gg.2.2.2 gg.2.2.1 (nI (cv3 tl tx gg.2.1))) hl tl (gg.2.1 + 1 + 1 + 1) (gg.2.2.1 + 1)])) (pBs (n := 1) [mdW G a (fla x) hi sl sv r o k t m e w tx (upd gg.2.2.2 gg.2.2.1 (nI (cv3 tl tx gg.2.1))) hl tl (gg.2.1 + 1 + 1 + 1) (gg.2.2.1 + 1)] [0] [] rfl (by decide)).symm ?_)
      refine V.if_neB (tgt := 28) E dX5_fault_20 (by decide) (fun q_20 => ?_) (fun q_20 => ?_)
      · refine V.aload_n E dX5_fault_28 rfl rfl ?_
        refine V.getf (C := RX5) (T := TX5) (N := 17) (ref := "GlassSpillModel") E 0 5 14 (by decide +kernel) rfl rfl (by decide) (by decide +kernel) rfl rfl dX5_fault_29 ?_
        refine V.aload_n E dX5_fault_32 rfl rfl ?_
        refine V.getf (C := RX5) (T := TX5) (N := 17) (ref := "GlassSpillModel") E 0 5 13 (by decide +kernel) rfl rfl (by decide) (by decide +kernel) rfl rfl dX5_fault_33 ?_
        refine V.icmp_geN (tgt := 52) E (by omega) (by have := ht.1; omega) dX5_fault_36 (by decide) (fun q_36 => ?_) (fun q_36 => ?_)
        · refine V.iconst (v := nI (0)) E dX5_fault_52 (by decide) ?_
          refine V.istore_n (lv' := [some (.ref (a 0)), some (.int (nI (0)))]) E dX5_fault_53 rfl (Nat.le_of_ble_eq_true rfl) rfl rfl ?_
          refine V.goto (tgt := 12) E dX5_fault_54 (by decide) ?_
          show V G A X rm_c_X5_fault (bl [mdW G a (fla x) hi sl sv r o k t m e w tx (((false, gg.2.1 + 1 + 1 + 1, gg.2.2.1 + 1, upd gg.2.2.2 gg.2.2.1 (nI (cv3 tl tx gg.2.1)))).2.2.2) hl tl (((false, gg.2.1 + 1 + 1 + 1, gg.2.2.1 + 1, upd gg.2.2.2 gg.2.2.1 (nI (cv3 tl tx gg.2.1)))).2.1) (((false, gg.2.1 + 1 + 1 + 1, gg.2.2.1 + 1, upd gg.2.2.2 gg.2.2.1 (nI (cv3 tl tx gg.2.1)))).2.2.1)]) 0 0 12 [some (.ref (a 0)), some (.int (nI (bN ((false, gg.2.1 + 1 + 1 + 1, gg.2.2.1 + 1, upd gg.2.2.2 gg.2.2.1 (nI (cv3 tl tx gg.2.1)))).1)))] []
          exact ih_12 ((false, gg.2.1 + 1 + 1 + 1, gg.2.2.1 + 1, upd gg.2.2.2 gg.2.2.1 (nI (cv3 tl tx gg.2.1)))) (by show 8 - (gg.2.2.1 + 1) + bN false < 8 - gg.2.2.1 + bN gg.1; rw [q_13]; show 8 - (gg.2.2.1 + 1) + 0 < 8 - gg.2.2.1 + 1; omega) ((Fi.nx (hg_12.1.three hr8 h0 h1 h2)).2 (by first | exact .inl q_36 | exact .inr q_45))
        · refine V.aload_n E dX5_fault_39 rfl rfl ?_
          refine V.getf (C := RX5) (T := TX5) (N := 17) (ref := "GlassSpillModel") E 0 5 16 (by decide +kernel) rfl rfl (by decide) (by decide +kernel) rfl rfl dX5_fault_40 ?_
          refine V.bipush (v := nI (8)) E dX5_fault_43 (by decide) ?_
          refine V.icmp_geN (tgt := 52) E (by omega) (by decide) dX5_fault_45 (by decide) (fun q_45 => ?_) (fun q_45 => ?_)
          · refine V.iconst (v := nI (0)) E dX5_fault_52 (by decide) ?_
            refine V.istore_n (lv' := [some (.ref (a 0)), some (.int (nI (0)))]) E dX5_fault_53 rfl (Nat.le_of_ble_eq_true rfl) rfl rfl ?_
            refine V.goto (tgt := 12) E dX5_fault_54 (by decide) ?_
            show V G A X rm_c_X5_fault (bl [mdW G a (fla x) hi sl sv r o k t m e w tx (((false, gg.2.1 + 1 + 1 + 1, gg.2.2.1 + 1, upd gg.2.2.2 gg.2.2.1 (nI (cv3 tl tx gg.2.1)))).2.2.2) hl tl (((false, gg.2.1 + 1 + 1 + 1, gg.2.2.1 + 1, upd gg.2.2.2 gg.2.2.1 (nI (cv3 tl tx gg.2.1)))).2.1) (((false, gg.2.1 + 1 + 1 + 1, gg.2.2.1 + 1, upd gg.2.2.2 gg.2.2.1 (nI (cv3 tl tx gg.2.1)))).2.2.1)]) 0 0 12 [some (.ref (a 0)), some (.int (nI (bN ((false, gg.2.1 + 1 + 1 + 1, gg.2.2.1 + 1, upd gg.2.2.2 gg.2.2.1 (nI (cv3 tl tx gg.2.1)))).1)))] []
            exact ih_12 ((false, gg.2.1 + 1 + 1 + 1, gg.2.2.1 + 1, upd gg.2.2.2 gg.2.2.1 (nI (cv3 tl tx gg.2.1)))) (by show 8 - (gg.2.2.1 + 1) + bN false < 8 - gg.2.2.1 + bN gg.1; rw [q_13]; show 8 - (gg.2.2.1 + 1) + 0 < 8 - gg.2.2.1 + 1; omega) ((Fi.nx (hg_12.1.three hr8 h0 h1 h2)).2 (by first | exact .inl q_36 | exact .inr q_45))
          · refine V.iconst (v := nI (1)) E dX5_fault_48 (by decide) ?_
            refine V.goto (tgt := 53) E dX5_fault_49 (by decide) ?_
            refine V.istore_n (lv' := [some (.ref (a 0)), some (.int (nI (1)))]) E dX5_fault_53 rfl (Nat.le_of_ble_eq_true rfl) rfl rfl ?_
            refine V.goto (tgt := 12) E dX5_fault_54 (by decide) ?_
            show V G A X rm_c_X5_fault (bl [mdW G a (fla x) hi sl sv r o k t m e w tx (((true, gg.2.1 + 1 + 1 + 1, gg.2.2.1 + 1, upd gg.2.2.2 gg.2.2.1 (nI (cv3 tl tx gg.2.1)))).2.2.2) hl tl (((true, gg.2.1 + 1 + 1 + 1, gg.2.2.1 + 1, upd gg.2.2.2 gg.2.2.1 (nI (cv3 tl tx gg.2.1)))).2.1) (((true, gg.2.1 + 1 + 1 + 1, gg.2.2.1 + 1, upd gg.2.2.2 gg.2.2.1 (nI (cv3 tl tx gg.2.1)))).2.2.1)]) 0 0 12 [some (.ref (a 0)), some (.int (nI (bN ((true, gg.2.1 + 1 + 1 + 1, gg.2.2.1 + 1, upd gg.2.2.2 gg.2.2.1 (nI (cv3 tl tx gg.2.1)))).1)))] []
            exact ih_12 ((true, gg.2.1 + 1 + 1 + 1, gg.2.2.1 + 1, upd gg.2.2.2 gg.2.2.1 (nI (cv3 tl tx gg.2.1)))) (by show 8 - (gg.2.2.1 + 1) + bN true < 8 - gg.2.2.1 + bN gg.1; rw [q_13]; show 8 - (gg.2.2.1 + 1) + 1 < 8 - gg.2.2.1 + 1; omega) ((Fi.nx (hg_12.1.three hr8 h0 h1 h2)).1 q_36 q_45)
      · exact absurd q_20 (by decide)
    · refine V.aload_n E dX5_fault_16 rfl rfl ?_
      refine V.callV (C := RX5) E (c_X5_readsColour_0 G a hi sl sv r o k t m e w tx gg.2.2.2 hl tl gg.2.1 gg.2.2.1 x (ht) (by have := ht.1; omega) (hr8) (hd) (h0)) (bl []) [] 0 5 rfl rfl rfl gX5_fault_X5_readsColour rfl ⟨rfl, hd_X5_readsColour⟩ ⟨⟨Nat.le_of_ble_eq_true rfl, Nat.le_of_ble_eq_true rfl⟩, Nat.le_of_ble_eq_true rfl, Nat.le_of_ble_eq_true rfl⟩ rfl (Nat.le_of_ble_eq_true rfl) rfl dX5_fault_17 (pBs (n := 1) [mdW G a (fla x) hi sl sv r o k t m e w tx gg.2.2.2 hl tl gg.2.1 gg.2.2.1] [0] [] rfl (by decide)) (kc' := 0) (ks' := 0) rfl rfl (rwI (ws' := (bl [mdW G a (fla x) hi sl sv r o k t m e w tx (upd gg.2.2.2 gg.2.2.1 (-1)) hl tl gg.2.1 gg.2.2.1])) (pBs (n := 1) [mdW G a (fla x) hi sl sv r o k t m e w tx (upd gg.2.2.2 gg.2.2.1 (-1)) hl tl gg.2.1 gg.2.2.1] [0] [] rfl (by decide)).symm ?_)
      refine V.if_neB (tgt := 28) E dX5_fault_20 (by decide) (fun q_20 => ?_) (fun q_20 => ?_)
      · exact absurd q_20 (by decide)
      · refine V.aload_n E dX5_fault_23 rfl rfl ?_
        refine V.getf (C := RX5) (T := TX5) (N := 17) (ref := "GlassSpillModel") E 0 5 14 (by decide +kernel) rfl rfl (by decide) (by decide +kernel) rfl rfl dX5_fault_24 ?_
        refine V.top (y := fau tl tx) ((hg_12.n0 q_13 hd h0).symm) ?_
        exact hend _ _ _ _ dX5_fault_27 (nrI _) ⟨(true, gg.2.1, gg.2.2.1, upd gg.2.2.2 gg.2.2.1 (-1)), rfl, rfl, Fz.bad (hg_12.n0 q_13 hd h0) (by have := ht.1; omega)⟩
    · refine V.aload_n E dX5_fault_16 rfl rfl ?_
      refine V.callV (C := RX5) E (c_X5_readsColour_1 G a hi sl sv r o k t m e w tx gg.2.2.2 hl tl gg.2.1 gg.2.2.1 x (ht) (by have := ht.1; omega) (hr8) (h0) (h1)) (bl []) [] 0 5 rfl rfl rfl gX5_fault_X5_readsColour rfl ⟨rfl, hd_X5_readsColour⟩ ⟨⟨Nat.le_of_ble_eq_true rfl, Nat.le_of_ble_eq_true rfl⟩, Nat.le_of_ble_eq_true rfl, Nat.le_of_ble_eq_true rfl⟩ rfl (Nat.le_of_ble_eq_true rfl) rfl dX5_fault_17 (pBs (n := 1) [mdW G a (fla x) hi sl sv r o k t m e w tx gg.2.2.2 hl tl gg.2.1 gg.2.2.1] [0] [] rfl (by decide)) (kc' := 0) (ks' := 0) rfl rfl (rwI (ws' := (bl [mdW G a (fla x) hi sl sv r o k t m e w tx (upd gg.2.2.2 gg.2.2.1 (-1)) hl tl (gg.2.1 + 1) gg.2.2.1])) (pBs (n := 1) [mdW G a (fla x) hi sl sv r o k t m e w tx (upd gg.2.2.2 gg.2.2.1 (-1)) hl tl (gg.2.1 + 1) gg.2.2.1] [0] [] rfl (by decide)).symm ?_)
      refine V.if_neB (tgt := 28) E dX5_fault_20 (by decide) (fun q_20 => ?_) (fun q_20 => ?_)
      · exact absurd q_20 (by decide)
      · refine V.aload_n E dX5_fault_23 rfl rfl ?_
        refine V.getf (C := RX5) (T := TX5) (N := 17) (ref := "GlassSpillModel") E 0 5 14 (by decide +kernel) rfl rfl (by decide) (by decide +kernel) rfl rfl dX5_fault_24 ?_
        refine V.top (y := fau tl tx) ((hg_12.n1 q_13 h0 h1).symm) ?_
        exact hend _ _ _ _ dX5_fault_27 (nrI _) ⟨(true, gg.2.1 + 1, gg.2.2.1, upd gg.2.2.2 gg.2.2.1 (-1)), rfl, rfl, Fz.bad (hg_12.n1 q_13 h0 h1) (by have := isP_in h0; have := ht.1; omega)⟩
    · refine V.aload_n E dX5_fault_16 rfl rfl ?_
      refine V.callV (C := RX5) E (c_X5_readsColour_2 G a hi sl sv r o k t m e w tx gg.2.2.2 hl tl gg.2.1 gg.2.2.1 x (ht) (by have := ht.1; omega) (hr8) (h0) (h1) (h2)) (bl []) [] 0 5 rfl rfl rfl gX5_fault_X5_readsColour rfl ⟨rfl, hd_X5_readsColour⟩ ⟨⟨Nat.le_of_ble_eq_true rfl, Nat.le_of_ble_eq_true rfl⟩, Nat.le_of_ble_eq_true rfl, Nat.le_of_ble_eq_true rfl⟩ rfl (Nat.le_of_ble_eq_true rfl) rfl dX5_fault_17 (pBs (n := 1) [mdW G a (fla x) hi sl sv r o k t m e w tx gg.2.2.2 hl tl gg.2.1 gg.2.2.1] [0] [] rfl (by decide)) (kc' := 0) (ks' := 0) rfl rfl (rwI (ws' := (bl [mdW G a (fla x) hi sl sv r o k t m e w tx (upd gg.2.2.2 gg.2.2.1 (-1)) hl tl (gg.2.1 + 1 + 1) gg.2.2.1])) (pBs (n := 1) [mdW G a (fla x) hi sl sv r o k t m e w tx (upd gg.2.2.2 gg.2.2.1 (-1)) hl tl (gg.2.1 + 1 + 1) gg.2.2.1] [0] [] rfl (by decide)).symm ?_)
      refine V.if_neB (tgt := 28) E dX5_fault_20 (by decide) (fun q_20 => ?_) (fun q_20 => ?_)
      · exact absurd q_20 (by decide)
      · refine V.aload_n E dX5_fault_23 rfl rfl ?_
        refine V.getf (C := RX5) (T := TX5) (N := 17) (ref := "GlassSpillModel") E 0 5 14 (by decide +kernel) rfl rfl (by decide) (by decide +kernel) rfl rfl dX5_fault_24 ?_
        refine V.top (y := fau tl tx) ((hg_12.n2 q_13 h0 h1 h2).symm) ?_
        exact hend _ _ _ _ dX5_fault_27 (nrI _) ⟨(true, gg.2.1 + 1 + 1, gg.2.2.1, upd gg.2.2.2 gg.2.2.1 (-1)), rfl, rfl, Fz.bad (hg_12.n2 q_13 h0 h1 h2) (by have := isP_in h1; have := ht.1; omega)⟩
theorem cv3_lt {tl : Nat} {tx : Nat → Nat} {s : Nat} (h : isP (txc tl tx s) = true ∧ isP (txc tl tx (s + 1)) = true ∧ isP (txc tl tx (s + 1 + 1)) = true) : cv3 tl tx s < 4096 := by
  have h0 := pv_lt h.1
  have h1 := pv_lt h.2.1
  have h2 := pv_lt h.2.2
  unfold cv3
  omega
theorem okC.n {tl : Nat} {tx : Nat → Nat} {s : Nat} (h : okC tl tx s) (hd : ¬ tx s = 46) : isP (txc tl tx s) = true ∧ isP (txc tl tx (s + 1)) = true ∧ isP (txc tl tx (s + 1 + 1)) = true := by
  rcases h with h | h
  · exact absurd h.2 hd
  · exact h
theorem cvI_lt {tl : Nat} {tx : Nat → Nat} {s : Nat} (h : okC tl tx s) (hc : cvI tl tx s < 0) : tx s = 46 := by
  by_cases hd : tx s = 46
  · exact hd
  · have e := cv3_lt (h.n hd)
    unfold cvI at hc
    rw [if_neg hd, i_lt, nI_toInt (by omega), i_0] at hc
    omega
theorem cvI_ge {tl : Nat} {tx : Nat → Nat} {s : Nat} (hc : ¬ cvI tl tx s < 0) : ¬ tx s = 46 := by
  intro hd
  unfold cvI at hc
  rw [if_pos hd] at hc
  exact hc (by decide)
theorem cvI_n {tl : Nat} {tx : Nat → Nat} {s : Nat} (hd : ¬ tx s = 46) : cvI tl tx s = nI (cv3 tl tx s) := if_neg hd
/-- a picture f painted from place h on by the first i colours of the text, and how many were painted -/
def rdF (tl : Nat) (tx : Nat → Nat) (h : Nat) (f : Nat → Nat) : Nat → Nat → Nat
  | 0 => f
  | i + 1 => if tx (stp tx i) = 46 then rdF tl tx h f i else upN (rdF tl tx h f i) (h + i) (cv3 tl tx (stp tx i))
def rdC (tx : Nat → Nat) : Nat → Nat
  | 0 => 0
  | i + 1 => if tx (stp tx i) = 46 then rdC tx i else rdC tx i + 1
theorem rdF_d {tl : Nat} {tx : Nat → Nat} {h i : Nat} {f : Nat → Nat} (e : tx (stp tx i) = 46) : rdF tl tx h f (i + 1) = rdF tl tx h f i := by rw [rdF, if_pos e]
theorem rdF_n {tl : Nat} {tx : Nat → Nat} {h i : Nat} {f : Nat → Nat} (e : ¬ tx (stp tx i) = 46) : rdF tl tx h f (i + 1) = upN (rdF tl tx h f i) (h + i) (cv3 tl tx (stp tx i)) := by rw [rdF, if_neg e]
theorem rdC_d {tx : Nat → Nat} {i : Nat} (e : tx (stp tx i) = 46) : rdC tx i = rdC tx (i + 1) := by rw [rdC, if_pos e]
theorem rdC_n {tx : Nat → Nat} {i : Nat} (e : ¬ tx (stp tx i) = 46) : rdC tx i + 1 = rdC tx (i + 1) := by rw [rdC, if_neg e]
theorem stp_lt (tx : Nat → Nat) (j : Nat) : stp tx j < stp tx (j + 1) := by
  rw [stp]
  split <;> omega
theorem stp_mono (tx : Nat → Nat) (j : Nat) : ∀ d, stp tx j + d ≤ stp tx (j + d)
  | 0 => Nat.le_refl _
  | d + 1 => by
    have h1 := stp_mono tx j d
    have h2 := stp_lt tx (j + d)
    show stp tx j + (d + 1) ≤ stp tx (j + d + 1)
    omega
theorem Gd.uniq {tl : Nat} {tx : Nat → Nat} {n m : Nat} (h1 : Gd tl tx n) (h2 : Gd tl tx m) : n = m := by
  have e1 := h1.2.1
  have e2 := h2.2.1
  rcases Nat.lt_trichotomy n m with c | c | c
  · have := stp_mono tx n (m - n)
    rw [show n + (m - n) = m by omega] at this
    omega
  · exact c
  · have := stp_mono tx m (n - m)
    rw [show m + (n - m) = n by omega] at this
    omega
/-- a text without a fault is made of colours -/
theorem Gd.of {tl : Nat} {tx : Nat → Nat} (h48 : tl ≤ 48) (h : fau tl tx = -6) : ∃ n, Gd tl tx n := by
  have key : ∀ q rd sp cl, tl - sp < q → Rd tl tx rd sp cl → ∃ n, Gd tl tx n := by
    intro q
    induction q with
    | zero => intro rd sp cl hq; exact absurd hq (by omega)
    | succ q ih =>
      intro rd sp cl hq hr
      have hle := hr.le
      by_cases e : sp < tl
      · have e8 : ¬ rd = 8 := by
          intro e8
          have z := hr.fe
          rw [ff_s e, if_pos e8, h] at z
          exact nI_6 (by omega) z.symm
        have h8 := hr.r8
        rcases rcC tl tx sp with hd | ⟨h0, h1, h2⟩ | ⟨hd, h0⟩ | ⟨h0, h1⟩ | ⟨h0, h1, h2⟩
        · exact ih _ _ _ (by omega) (hr.dot (by omega) hd)
        · exact ih _ _ _ (by omega) (hr.three (by omega) h0 h1 h2)
        · exact absurd (h.symm.trans (hr.fe.trans (ff_no e8 h0 hle (.inr ⟨hd, .inl e⟩)))).symm (nI_6 (by omega))
        · exact absurd (h.symm.trans (hr.fe.trans ((ff_p e8 h0 (by decide)).trans (ff_no e8 h1 (isP_in h0) (.inl (by decide)))))).symm (nI_6 (by have := isP_in h0; omega))
        · exact absurd (h.symm.trans (hr.fe.trans ((ff_p e8 h0 (by decide)).trans ((ff_p e8 h1 (by decide)).trans (ff_no e8 h2 (isP_in h1) (.inl (by decide))))))).symm (nI_6 (by have := isP_in h1; omega))
      · exact ⟨rd, hr.r8, hr.se.symm.trans (by omega), hr.ok⟩
  exact key (tl + 1) 0 0 (fun _ => 0) (by omega) (Rd.zero tl tx _)
abbrev rm_c_X5_read_bad : Room := { frames := 1, cells := 0, slots := 0, locals := 25 }
theorem hd_X5_read : yX5_read.cls ≠ "java/lang/invoke/MethodHandle" ∧ yX5_read.cls ≠ "java/lang/invoke/VarHandle" ∧ (parseMethodDescriptor yX5_read.desc).map (fun d => d.parameters.length) = some 2 := by decide +kernel
set_option maxRecDepth 100000 in
set_option maxHeartbeats 8000000 in
theorem c_X5_read_bad (G : VC) (a : Nat → Nat) (hi : Nat → Nat) (sl : Nat → Nat) (sv : Nat → Nat) (r : Nat → Nat) (o : Nat → Nat) (k : Nat → Nat) (t : Nat → Nat) (m : Nat → Nat) (e : Nat → Nat) (w : Nat → Nat) (tx : Nat → Nat) (cl : Nat → Int32) (hl : Nat) (tl : Nat) (sp : Nat) (rd : Nat) (x : SC) (b_ : Nat) (w_ : Int32) (hb : okI 6 w_ = false) : Ctr yX5_read wsX5_read rm_c_X5_read_bad G [.ref (a 0), .int (nI (b_)), .int (w_)] (bl [mdW G a (fla x) hi sl sv r o k t m e w tx cl hl tl sp rd]) (fun v9_ u9_ => u9_ = (bl [mdW G a (fla x) hi sl sv r o k t m e w tx cl hl tl sp rd]) ∧ v9_ = some (.int ((-1 : Int32)))) := by
  refine Ctr.int (cc := cX5_read) (maxL := 5) (ret := (some .int)) (lv0 := [some (.ref (a 0)), some (.int (nI (b_))), some (.int (w_)), none, none]) (by decide) rfl rfl rfl (Nat.le_of_ble_eq_true rfl) rfl (fun A X E hend => ?_)
  refine V.iload_n E dX5_read_0 rfl rfl ?_
  refine V.i2l E dX5_read_1 rfl ?_
  refine V.lconst (v := 0) E dX5_read_2 (by decide) ?_
  refine V.ldc2 (v := 5) E (by decide +kernel) dX5_read_3 ?_
  refine V.callS E (c_X5_in G w_.toInt64 ((0 : Int64)) ((5 : Int64)) ) (bl [mdW G a (fla x) hi sl sv r o k t m e w tx cl hl tl sp rd]) [] gX5_read_X5_in rfl hd_X5_in ⟨⟨Nat.le_of_ble_eq_true rfl, Nat.le_of_ble_eq_true rfl⟩, Nat.le_of_ble_eq_true rfl, Nat.le_of_ble_eq_true rfl⟩ rfl (Nat.le_of_ble_eq_true rfl) rfl dX5_read_6 (List.Perm.refl _) (kc' := 0) (ks' := 0) rfl rfl (rwI (ws' := (bl [mdW G a (fla x) hi sl sv r o k t m e w tx cl hl tl sp rd])) (List.Perm.refl _) ?_)
  refine V.topN (b := bN (okI 6 w_)) (congrArg bN (inL_ok _ (n := 5) (by decide))) ?_
  refine V.if_neB (tgt := 14) E dX5_read_9 (by decide) (fun q_9 => ?_) (fun q_9 => ?_)
  · exact absurd (hb.symm.trans q_9) (by decide)
  · refine V.iconst (v := (-1 : Int32)) E dX5_read_12 (by decide) ?_
    exact hend _ _ _ _ dX5_read_13 (nrI _) ⟨rfl, rfl⟩
abbrev rm_c_X5_read_no : Room := { frames := 4, cells := 0, slots := 0, locals := 91 }
set_option maxRecDepth 100000 in
set_option maxHeartbeats 8000000 in
theorem c_X5_read_no (G : VC) (a : Nat → Nat) (hi : Nat → Nat) (sl : Nat → Nat) (sv : Nat → Nat) (r : Nat → Nat) (o : Nat → Nat) (k : Nat → Nat) (t : Nat → Nat) (m : Nat → Nat) (e : Nat → Nat) (w : Nat → Nat) (tx : Nat → Nat) (cl : Nat → Int32) (hl : Nat) (tl : Nat) (sp : Nat) (rd : Nat) (x : SC) (b_ : Nat) (w_ : Nat) (ht : TI tl tx) (hw : w_ < 6) (hf : ¬ fau tl tx = -6) : Ctr yX5_read wsX5_read rm_c_X5_read_no G [.ref (a 0), .int (nI (b_)), .int (nI (w_))] (bl [mdW G a (fla x) hi sl sv r o k t m e w tx cl hl tl sp rd]) (fun v9_ u9_ => ∃ fg : FG, u9_ = (bl [mdW G a (fla x) hi sl sv r o k t m e w tx fg.2.2.2 hl tl fg.2.1 fg.2.2.1]) ∧ v9_ = some (.int ((-3 : Int32))) ∧ (True)) := by
  refine Ctr.int (cc := cX5_read) (maxL := 5) (ret := (some .int)) (lv0 := [some (.ref (a 0)), some (.int (nI (b_))), some (.int (nI (w_))), none, none]) (by decide) rfl rfl rfl (Nat.le_of_ble_eq_true rfl) rfl (fun A X E hend => ?_)
  refine V.iload_n E dX5_read_0 rfl rfl ?_
  refine V.i2l E dX5_read_1 rfl ?_
  refine V.lconst (v := 0) E dX5_read_2 (by decide) ?_
  refine V.ldc2 (v := 5) E (by decide +kernel) dX5_read_3 ?_
  refine V.callS E (c_X5_in G ((nI (w_)).toInt64) ((0 : Int64)) ((5 : Int64)) ) (bl [mdW G a (fla x) hi sl sv r o k t m e w tx cl hl tl sp rd]) [] gX5_read_X5_in rfl hd_X5_in ⟨⟨Nat.le_of_ble_eq_true rfl, Nat.le_of_ble_eq_true rfl⟩, Nat.le_of_ble_eq_true rfl, Nat.le_of_ble_eq_true rfl⟩ rfl (Nat.le_of_ble_eq_true rfl) rfl dX5_read_6 (List.Perm.refl _) (kc' := 0) (ks' := 0) rfl rfl (rwI (ws' := (bl [mdW G a (fla x) hi sl sv r o k t m e w tx cl hl tl sp rd])) (List.Perm.refl _) ?_)
  refine V.topN (b := bN (okI 6 (nI (w_)))) (congrArg bN (inL_ok _ (n := 5) (by decide))) ?_
  refine V.if_neB (tgt := 14) E dX5_read_9 (by decide) (fun q_9 => ?_) (fun q_9 => ?_)
  · refine V.aload_n E dX5_read_14 rfl rfl ?_
    refine V.callV (C := RX5) E (c_X5_fault G a hi sl sv r o k t m e w tx cl hl tl sp rd x (ht)) (bl []) [] 0 5 rfl rfl rfl gX5_read_X5_fault rfl ⟨rfl, hd_X5_fault⟩ ⟨⟨Nat.le_of_ble_eq_true rfl, Nat.le_of_ble_eq_true rfl⟩, Nat.le_of_ble_eq_true rfl, Nat.le_of_ble_eq_true rfl⟩ rfl (Nat.le_of_ble_eq_true rfl) rfl dX5_read_15 (pBs (n := 1) [mdW G a (fla x) hi sl sv r o k t m e w tx cl hl tl sp rd] [0] [] rfl (by decide)) (kc' := 0) (ks' := 0) rfl rfl (rxI (ws' := fun (g_15 : FG) => (bl [mdW G a (fla x) hi sl sv r o k t m e w tx g_15.2.2.2 hl tl g_15.2.1 g_15.2.2.1])) (fun g_15 => (pBs (n := 1) [mdW G a (fla x) hi sl sv r o k t m e w tx g_15.2.2.2 hl tl g_15.2.1 g_15.2.2.1] [0] [] rfl (by decide)).symm) (fun g_15 hf_15 => ?_))
    refine V.bipush (v := (-6 : Int32)) E dX5_read_18 (by decide) ?_
    refine V.icmp_eq (tgt := 26) E dX5_read_20 (by decide) (fun q_20 => ?_) (fun q_20 => ?_)
    · exact absurd q_20 hf
    · refine V.bipush (v := (-3 : Int32)) E dX5_read_23 (by decide) ?_
      exact hend _ _ _ _ dX5_read_25 (nrI _) ⟨g_15, rfl, rfl, trivial⟩
  · exact absurd ((okI_n hw (by omega)).symm.trans q_9) (by decide)
abbrev rm_c_X5_read_t : Room := { frames := 4, cells := 0, slots := 0, locals := 91 }
set_option maxRecDepth 100000 in
set_option maxHeartbeats 8000000 in
theorem c_X5_read_t (G : VC) (a : Nat → Nat) (hi : Nat → Nat) (sl : Nat → Nat) (sv : Nat → Nat) (r : Nat → Nat) (o : Nat → Nat) (k : Nat → Nat) (t : Nat → Nat) (m : Nat → Nat) (e : Nat → Nat) (w : Nat → Nat) (tx : Nat → Nat) (cl : Nat → Int32) (hl : Nat) (tl : Nat) (sp : Nat) (rd : Nat) (x : SC) (hh : Nat → SC) (w_ : Nat) (n_ : Nat) (ht : TI tl tx) (hl6 : hl ≤ 6) (hH : HI hl hh hi) (hw : w_ < 6) (hf : fau tl tx = -6) (hG : Gd tl tx n_) : Ctr yX5_read wsX5_read rm_c_X5_read_t G [.ref (a 0), .int (nI (bN true)), .int (nI (w_))] (bl [mdW G a (fla x) hi sl sv r o k t m e w tx cl hl tl sp rd]) (fun v9_ u9_ => ∃ gg : (Nat → Nat) × FG, u9_ = (bl [mdW G a (fla (scS x, rdF tl tx (8 * w_) (scF x) n_, x.2.2)) gg.1 sl sv r o k t m e w tx gg.2.2.2.2 (hlN hl) 0 gg.2.2.1 gg.2.2.2.1]) ∧ v9_ = some (.int (nI (rdC tx n_))) ∧ (HI (hlN hl) (hhN x hl hh) gg.1)) := by
  refine Ctr.int (cc := cX5_read) (maxL := 5) (ret := (some .int)) (lv0 := [some (.ref (a 0)), some (.int (nI (bN true))), some (.int (nI (w_))), none, none]) (by decide) rfl rfl rfl (Nat.le_of_ble_eq_true rfl) rfl (fun A X E hend => ?_)
  refine V.iload_n E dX5_read_0 rfl rfl ?_
  refine V.i2l E dX5_read_1 rfl ?_
  refine V.lconst (v := 0) E dX5_read_2 (by decide) ?_
  refine V.ldc2 (v := 5) E (by decide +kernel) dX5_read_3 ?_
  refine V.callS E (c_X5_in G ((nI (w_)).toInt64) ((0 : Int64)) ((5 : Int64)) ) (bl [mdW G a (fla x) hi sl sv r o k t m e w tx cl hl tl sp rd]) [] gX5_read_X5_in rfl hd_X5_in ⟨⟨Nat.le_of_ble_eq_true rfl, Nat.le_of_ble_eq_true rfl⟩, Nat.le_of_ble_eq_true rfl, Nat.le_of_ble_eq_true rfl⟩ rfl (Nat.le_of_ble_eq_true rfl) rfl dX5_read_6 (List.Perm.refl _) (kc' := 0) (ks' := 0) rfl rfl (rwI (ws' := (bl [mdW G a (fla x) hi sl sv r o k t m e w tx cl hl tl sp rd])) (List.Perm.refl _) ?_)
  refine V.topN (b := bN (okI 6 (nI (w_)))) (congrArg bN (inL_ok _ (n := 5) (by decide))) ?_
  refine V.if_neB (tgt := 14) E dX5_read_9 (by decide) (fun q_9 => ?_) (fun q_9 => ?_)
  · refine V.aload_n E dX5_read_14 rfl rfl ?_
    refine V.callV (C := RX5) E (c_X5_fault G a hi sl sv r o k t m e w tx cl hl tl sp rd x (ht)) (bl []) [] 0 5 rfl rfl rfl gX5_read_X5_fault rfl ⟨rfl, hd_X5_fault⟩ ⟨⟨Nat.le_of_ble_eq_true rfl, Nat.le_of_ble_eq_true rfl⟩, Nat.le_of_ble_eq_true rfl, Nat.le_of_ble_eq_true rfl⟩ rfl (Nat.le_of_ble_eq_true rfl) rfl dX5_read_15 (pBs (n := 1) [mdW G a (fla x) hi sl sv r o k t m e w tx cl hl tl sp rd] [0] [] rfl (by decide)) (kc' := 0) (ks' := 0) rfl rfl (rxI (ws' := fun (g_15 : FG) => (bl [mdW G a (fla x) hi sl sv r o k t m e w tx g_15.2.2.2 hl tl g_15.2.1 g_15.2.2.1])) (fun g_15 => (pBs (n := 1) [mdW G a (fla x) hi sl sv r o k t m e w tx g_15.2.2.2 hl tl g_15.2.1 g_15.2.2.1] [0] [] rfl (by decide)).symm) (fun g_15 hf_15 => ?_))
    refine V.bipush (v := (-6 : Int32)) E dX5_read_18 (by decide) ?_
    refine V.icmp_eq (tgt := 26) E dX5_read_20 (by decide) (fun q_20 => ?_) (fun q_20 => ?_)
    · have hn_ : g_15.2.2.1 = n_ := Gd.uniq (hf_15 hf).1 hG
      have hcl := (hf_15 hf).2
      refine V.aload_n E dX5_read_26 rfl rfl ?_
      refine V.callV (C := RX5) E (c_X5_changes G a hi sl sv r o k t m e w tx g_15.2.2.2 hl tl g_15.2.1 g_15.2.2.1 x hh (hl6) (hH)) (bl []) [] 0 5 rfl rfl rfl gX5_read_X5_changes rfl ⟨rfl, hd_X5_changes⟩ ⟨⟨Nat.le_of_ble_eq_true rfl, Nat.le_of_ble_eq_true rfl⟩, Nat.le_of_ble_eq_true rfl, Nat.le_of_ble_eq_true rfl⟩ rfl (Nat.le_of_ble_eq_true rfl) rfl dX5_read_27 (pBs (n := 1) [mdW G a (fla x) hi sl sv r o k t m e w tx g_15.2.2.2 hl tl g_15.2.1 g_15.2.2.1] [0] [] rfl (by decide)) (kc' := 0) (ks' := 0) rfl rfl (rxV (ws' := fun (g_27 : Nat → Nat) => (bl [mdW G a (fla x) g_27 sl sv r o k t m e w tx g_15.2.2.2 (hlN hl) tl g_15.2.1 g_15.2.2.1])) (fun g_27 => (pBs (n := 1) [mdW G a (fla x) g_27 sl sv r o k t m e w tx g_15.2.2.2 (hlN hl) tl g_15.2.1 g_15.2.2.1] [0] [] rfl (by decide)).symm) (fun g_27 hf_27 => ?_))
      refine V.iconst (v := nI (0)) E dX5_read_30 (by decide) ?_
      refine V.istore_n (lv' := [some (.ref (a 0)), some (.int (nI (bN true))), some (.int (nI (w_))), some (.int (nI (0))), none]) E dX5_read_31 rfl (Nat.le_of_ble_eq_true rfl) rfl rfl ?_
      refine V.iconst (v := nI (0)) E dX5_read_32 (by decide) ?_
      refine V.istore (lv' := [some (.ref (a 0)), some (.int (nI (bN true))), some (.int (nI (w_))), some (.int (nI (0))), some (.int (nI (0)))]) E dX5_read_33 (Nat.le_of_ble_eq_true rfl) rfl rfl ?_
      refine V.locN (b := rdC tx 0) (lv' := [some (.ref (a 0)), some (.int (nI (bN true))), some (.int (nI (w_))), some (.int (nI (rdC tx 0))), some (.int (nI (0)))]) 3 (rfl) rfl rfl ?_
      show V G A X rm_c_X5_read_t (bl [mdW G a (fla (scS x, rdF tl tx (8 * w_) (scF x) 0, x.2.2)) g_27 sl sv r o k t m e w tx g_15.2.2.2 (hlN hl) tl g_15.2.1 g_15.2.2.1]) 0 0 35 [some (.ref (a 0)), some (.int (nI (bN true))), some (.int (nI (w_))), some (.int (nI (rdC tx 0))), some (.int (nI (0)))] []
      refine loopN (P := fun i35 => V G A X rm_c_X5_read_t (bl [mdW G a (fla (scS x, rdF tl tx (8 * w_) (scF x) i35, x.2.2)) g_27 sl sv r o k t m e w tx g_15.2.2.2 (hlN hl) tl g_15.2.1 g_15.2.2.1]) 0 0 35 [some (.ref (a 0)), some (.int (nI (bN true))), some (.int (nI (w_))), some (.int (nI (rdC tx i35))), some (.int (nI (i35)))] []) n_ (fun i35 hi_35 ih_35 => ?_) 0 (Nat.zero_le _)
      refine V.iload E dX5_read_35 rfl ?_
      refine V.aload_n E dX5_read_37 rfl rfl ?_
      refine V.getf (C := RX5) (T := TX5) (N := 17) (ref := "GlassSpillModel") E 0 5 16 (by decide +kernel) rfl rfl (by decide) (by decide +kernel) rfl rfl dX5_read_38 ?_
      refine V.topN (b := n_) (hn_) ?_
      refine V.icmp_geN (tgt := 87) E (by have := hG.1; omega) (by have := hG.1; omega) dX5_read_41 (by decide) (fun q_41 => ?_) (fun q_41 => ?_)
      · obtain rfl : n_ = i35 := by omega
        refine V.aload_n E dX5_read_87 rfl rfl ?_
        refine V.iconst (v := nI (0)) E dX5_read_88 (by decide) ?_
        refine V.putf (C := RX5) (T := TX5) (N := 17) (ref := "GlassSpillModel") (ws' := (bl [mdW G a (fla (scS x, rdF tl tx (8 * w_) (scF x) n_, x.2.2)) g_27 sl sv r o k t m e w tx g_15.2.2.2 (hlN hl) 0 g_15.2.1 g_15.2.2.1])) E 0 5 13 (by decide +kernel) tyX5_ok nmX5 rfl rfl (by decide) (by decide +kernel) rfl rfl rfl rfl (Nat.le_of_ble_eq_true rfl) dX5_read_89 rfl ?_
        refine V.iload_n E dX5_read_92 rfl rfl ?_
        exact hend _ _ _ _ dX5_read_93 (nrI _) ⟨(g_27, g_15), rfl, rfl, hf_27⟩
      · refine V.aload_n E dX5_read_44 rfl rfl ?_
        refine V.getf (C := RX5) (T := TX5) (N := 17) (ref := "GlassSpillModel") E 0 5 15 (by decide +kernel) rfl rfl (by decide) (by decide +kernel) rfl rfl dX5_read_45 ?_
        refine V.iload E dX5_read_48 rfl ?_
        refine V.ialdN (v := cvI tl tx (stp tx i35)) E 13 rfl (by have := hG.1; omega) (by decide) (hcl i35 (by omega)) dX5_read_50 ?_
        refine V.if_lt (tgt := 81) E dX5_read_51 (by decide) (fun q_51 => ?_) (fun q_51 => ?_)
        · refine V.iincN (lv' := [some (.ref (a 0)), some (.int (nI (bN true))), some (.int (nI (w_))), some (.int (nI (rdC tx i35))), some (.int (nI (i35 + 1)))]) E dX5_read_81 rfl (Nat.le_of_ble_eq_true rfl) rfl rfl ?_
          refine V.goto (tgt := 35) E dX5_read_84 (by decide) ?_
          refine V.locN (b := rdC tx (i35 + 1)) (lv' := [some (.ref (a 0)), some (.int (nI (bN true))), some (.int (nI (w_))), some (.int (nI (rdC tx (i35 + 1)))), some (.int (nI (i35 + 1)))]) 3 (rdC_d (cvI_lt (hG.2.2 i35 (by omega)) q_51)) rfl rfl ?_
          refine V.arr (f' := nA (fla (scS x, rdF tl tx (8 * w_) (scF x) (i35 + 1), x.2.2))) (ws' := (bl [mdW G a (fla (scS x, rdF tl tx (8 * w_) (scF x) (i35 + 1), x.2.2)) g_27 sl sv r o k t m e w tx g_15.2.2.2 (hlN hl) tl g_15.2.1 g_15.2.2.1])) 1 rfl (fun j _ => by rw [rdF_d (cvI_lt (hG.2.2 i35 (by omega)) q_51)]) rfl ?_
          exact ih_35 (by omega)
        · refine V.aload_n E dX5_read_54 rfl rfl ?_
          refine V.getf (C := RX5) (T := TX5) (N := 17) (ref := "GlassSpillModel") E 0 5 0 (by decide +kernel) rfl rfl (by decide) (by decide +kernel) rfl rfl dX5_read_55 ?_
          refine V.iload_n E dX5_read_58 rfl rfl ?_
          refine V.callS E (c_X5_picture_t G  ) (bl [mdW G a (fla (scS x, rdF tl tx (8 * w_) (scF x) i35, x.2.2)) g_27 sl sv r o k t m e w tx g_15.2.2.2 (hlN hl) tl g_15.2.1 g_15.2.2.1]) [.ref (a 1)] gX5_read_X5_picture rfl hd_X5_picture ⟨⟨Nat.le_of_ble_eq_true rfl, Nat.le_of_ble_eq_true rfl⟩, Nat.le_of_ble_eq_true rfl, Nat.le_of_ble_eq_true rfl⟩ rfl (Nat.le_of_ble_eq_true rfl) rfl dX5_read_59 (List.Perm.refl _) (kc' := 0) (ks' := 0) rfl rfl (rwI (ws' := (bl [mdW G a (fla (scS x, rdF tl tx (8 * w_) (scF x) i35, x.2.2)) g_27 sl sv r o k t m e w tx g_15.2.2.2 (hlN hl) tl g_15.2.1 g_15.2.2.1])) (List.Perm.refl _) ?_)
          refine V.bipush (v := nI (8)) E dX5_read_62 (by decide) ?_
          refine V.iload_n E dX5_read_64 rfl rfl ?_
          refine V.imulN E  dX5_read_65 ?_
          refine V.iaddN E  dX5_read_66 ?_
          refine V.iload E dX5_read_67 rfl ?_
          refine V.iaddN E  dX5_read_69 ?_
          refine V.aload_n E dX5_read_70 rfl rfl ?_
          refine V.getf (C := RX5) (T := TX5) (N := 17) (ref := "GlassSpillModel") E 0 5 15 (by decide +kernel) rfl rfl (by decide) (by decide +kernel) rfl rfl dX5_read_71 ?_
          refine V.iload E dX5_read_74 rfl ?_
          refine V.ialdN (v := nI (cv3 tl tx (stp tx i35))) E 13 rfl (by have := hG.1; omega) (by decide) ((hcl i35 (by omega)).trans (cvI_n (cvI_ge q_51))) dX5_read_76 ?_
          refine V.iastN (f' := nA (fla (scS x, rdF tl tx (8 * w_) (scF x) (i35 + 1), x.2.2))) (ws' := (bl [mdW G a (fla (scS x, rdF tl tx (8 * w_) (scF x) (i35 + 1), x.2.2)) g_27 sl sv r o k t m e w tx g_15.2.2.2 (hlN hl) tl g_15.2.1 g_15.2.2.1])) E 1 rfl (by have := hG.1; omega) (by decide) dX5_read_77 (fun j _ => by rw [show (7 + (8 * w_)) + i35 = 7 + (8 * w_ + i35) by omega]; exact fla_vF (p := 8 * w_ + i35) (by have := hG.1; omega) (fun j => by rw [rdF_n (cvI_ge q_51)]) j) rfl ?_
          refine V.iincN (lv' := [some (.ref (a 0)), some (.int (nI (bN true))), some (.int (nI (w_))), some (.int (nI (rdC tx i35 + 1))), some (.int (nI (i35)))]) E dX5_read_78 rfl (Nat.le_of_ble_eq_true rfl) rfl rfl ?_
          refine V.iincN (lv' := [some (.ref (a 0)), some (.int (nI (bN true))), some (.int (nI (w_))), some (.int (nI (rdC tx i35 + 1))), some (.int (nI (i35 + 1)))]) E dX5_read_81 rfl (Nat.le_of_ble_eq_true rfl) rfl rfl ?_
          refine V.goto (tgt := 35) E dX5_read_84 (by decide) ?_
          refine V.locN (b := rdC tx (i35 + 1)) (lv' := [some (.ref (a 0)), some (.int (nI (bN true))), some (.int (nI (w_))), some (.int (nI (rdC tx (i35 + 1)))), some (.int (nI (i35 + 1)))]) 3 (rdC_n (cvI_ge q_51)) rfl rfl ?_
          exact ih_35 (by omega)
    · exact absurd hf q_20
  · exact absurd ((okI_n hw (by omega)).symm.trans q_9) (by decide)
abbrev rm_c_X5_read_f : Room := { frames := 4, cells := 0, slots := 0, locals := 91 }
set_option maxRecDepth 100000 in
set_option maxHeartbeats 8000000 in
theorem c_X5_read_f (G : VC) (a : Nat → Nat) (hi : Nat → Nat) (sl : Nat → Nat) (sv : Nat → Nat) (r : Nat → Nat) (o : Nat → Nat) (k : Nat → Nat) (t : Nat → Nat) (m : Nat → Nat) (e : Nat → Nat) (w : Nat → Nat) (tx : Nat → Nat) (cl : Nat → Int32) (hl : Nat) (tl : Nat) (sp : Nat) (rd : Nat) (x : SC) (hh : Nat → SC) (w_ : Nat) (n_ : Nat) (ht : TI tl tx) (hl6 : hl ≤ 6) (hH : HI hl hh hi) (hw : w_ < 6) (hf : fau tl tx = -6) (hG : Gd tl tx n_) : Ctr yX5_read wsX5_read rm_c_X5_read_f G [.ref (a 0), .int (nI (bN false)), .int (nI (w_))] (bl [mdW G a (fla x) hi sl sv r o k t m e w tx cl hl tl sp rd]) (fun v9_ u9_ => ∃ gg : (Nat → Nat) × FG, u9_ = (bl [mdW G a (fla (scS x, scF x, rdF tl tx (8 * w_) (scB x) n_, x.2.2.2)) gg.1 sl sv r o k t m e w tx gg.2.2.2.2 (hlN hl) 0 gg.2.2.1 gg.2.2.2.1]) ∧ v9_ = some (.int (nI (rdC tx n_))) ∧ (HI (hlN hl) (hhN x hl hh) gg.1)) := by
  refine Ctr.int (cc := cX5_read) (maxL := 5) (ret := (some .int)) (lv0 := [some (.ref (a 0)), some (.int (nI (bN false))), some (.int (nI (w_))), none, none]) (by decide) rfl rfl rfl (Nat.le_of_ble_eq_true rfl) rfl (fun A X E hend => ?_)
  refine V.iload_n E dX5_read_0 rfl rfl ?_
  refine V.i2l E dX5_read_1 rfl ?_
  refine V.lconst (v := 0) E dX5_read_2 (by decide) ?_
  refine V.ldc2 (v := 5) E (by decide +kernel) dX5_read_3 ?_
  refine V.callS E (c_X5_in G ((nI (w_)).toInt64) ((0 : Int64)) ((5 : Int64)) ) (bl [mdW G a (fla x) hi sl sv r o k t m e w tx cl hl tl sp rd]) [] gX5_read_X5_in rfl hd_X5_in ⟨⟨Nat.le_of_ble_eq_true rfl, Nat.le_of_ble_eq_true rfl⟩, Nat.le_of_ble_eq_true rfl, Nat.le_of_ble_eq_true rfl⟩ rfl (Nat.le_of_ble_eq_true rfl) rfl dX5_read_6 (List.Perm.refl _) (kc' := 0) (ks' := 0) rfl rfl (rwI (ws' := (bl [mdW G a (fla x) hi sl sv r o k t m e w tx cl hl tl sp rd])) (List.Perm.refl _) ?_)
  refine V.topN (b := bN (okI 6 (nI (w_)))) (congrArg bN (inL_ok _ (n := 5) (by decide))) ?_
  refine V.if_neB (tgt := 14) E dX5_read_9 (by decide) (fun q_9 => ?_) (fun q_9 => ?_)
  · refine V.aload_n E dX5_read_14 rfl rfl ?_
    refine V.callV (C := RX5) E (c_X5_fault G a hi sl sv r o k t m e w tx cl hl tl sp rd x (ht)) (bl []) [] 0 5 rfl rfl rfl gX5_read_X5_fault rfl ⟨rfl, hd_X5_fault⟩ ⟨⟨Nat.le_of_ble_eq_true rfl, Nat.le_of_ble_eq_true rfl⟩, Nat.le_of_ble_eq_true rfl, Nat.le_of_ble_eq_true rfl⟩ rfl (Nat.le_of_ble_eq_true rfl) rfl dX5_read_15 (pBs (n := 1) [mdW G a (fla x) hi sl sv r o k t m e w tx cl hl tl sp rd] [0] [] rfl (by decide)) (kc' := 0) (ks' := 0) rfl rfl (rxI (ws' := fun (g_15 : FG) => (bl [mdW G a (fla x) hi sl sv r o k t m e w tx g_15.2.2.2 hl tl g_15.2.1 g_15.2.2.1])) (fun g_15 => (pBs (n := 1) [mdW G a (fla x) hi sl sv r o k t m e w tx g_15.2.2.2 hl tl g_15.2.1 g_15.2.2.1] [0] [] rfl (by decide)).symm) (fun g_15 hf_15 => ?_))
    refine V.bipush (v := (-6 : Int32)) E dX5_read_18 (by decide) ?_
    refine V.icmp_eq (tgt := 26) E dX5_read_20 (by decide) (fun q_20 => ?_) (fun q_20 => ?_)
    · have hn_ : g_15.2.2.1 = n_ := Gd.uniq (hf_15 hf).1 hG
      have hcl := (hf_15 hf).2
      refine V.aload_n E dX5_read_26 rfl rfl ?_
      refine V.callV (C := RX5) E (c_X5_changes G a hi sl sv r o k t m e w tx g_15.2.2.2 hl tl g_15.2.1 g_15.2.2.1 x hh (hl6) (hH)) (bl []) [] 0 5 rfl rfl rfl gX5_read_X5_changes rfl ⟨rfl, hd_X5_changes⟩ ⟨⟨Nat.le_of_ble_eq_true rfl, Nat.le_of_ble_eq_true rfl⟩, Nat.le_of_ble_eq_true rfl, Nat.le_of_ble_eq_true rfl⟩ rfl (Nat.le_of_ble_eq_true rfl) rfl dX5_read_27 (pBs (n := 1) [mdW G a (fla x) hi sl sv r o k t m e w tx g_15.2.2.2 hl tl g_15.2.1 g_15.2.2.1] [0] [] rfl (by decide)) (kc' := 0) (ks' := 0) rfl rfl (rxV (ws' := fun (g_27 : Nat → Nat) => (bl [mdW G a (fla x) g_27 sl sv r o k t m e w tx g_15.2.2.2 (hlN hl) tl g_15.2.1 g_15.2.2.1])) (fun g_27 => (pBs (n := 1) [mdW G a (fla x) g_27 sl sv r o k t m e w tx g_15.2.2.2 (hlN hl) tl g_15.2.1 g_15.2.2.1] [0] [] rfl (by decide)).symm) (fun g_27 hf_27 => ?_))
      refine V.iconst (v := nI (0)) E dX5_read_30 (by decide) ?_
      refine V.istore_n (lv' := [some (.ref (a 0)), some (.int (nI (bN false))), some (.int (nI (w_))), some (.int (nI (0))), none]) E dX5_read_31 rfl (Nat.le_of_ble_eq_true rfl) rfl rfl ?_
      refine V.iconst (v := nI (0)) E dX5_read_32 (by decide) ?_
      refine V.istore (lv' := [some (.ref (a 0)), some (.int (nI (bN false))), some (.int (nI (w_))), some (.int (nI (0))), some (.int (nI (0)))]) E dX5_read_33 (Nat.le_of_ble_eq_true rfl) rfl rfl ?_
      refine V.locN (b := rdC tx 0) (lv' := [some (.ref (a 0)), some (.int (nI (bN false))), some (.int (nI (w_))), some (.int (nI (rdC tx 0))), some (.int (nI (0)))]) 3 (rfl) rfl rfl ?_
      show V G A X rm_c_X5_read_f (bl [mdW G a (fla (scS x, scF x, rdF tl tx (8 * w_) (scB x) 0, x.2.2.2)) g_27 sl sv r o k t m e w tx g_15.2.2.2 (hlN hl) tl g_15.2.1 g_15.2.2.1]) 0 0 35 [some (.ref (a 0)), some (.int (nI (bN false))), some (.int (nI (w_))), some (.int (nI (rdC tx 0))), some (.int (nI (0)))] []
      refine loopN (P := fun i35 => V G A X rm_c_X5_read_f (bl [mdW G a (fla (scS x, scF x, rdF tl tx (8 * w_) (scB x) i35, x.2.2.2)) g_27 sl sv r o k t m e w tx g_15.2.2.2 (hlN hl) tl g_15.2.1 g_15.2.2.1]) 0 0 35 [some (.ref (a 0)), some (.int (nI (bN false))), some (.int (nI (w_))), some (.int (nI (rdC tx i35))), some (.int (nI (i35)))] []) n_ (fun i35 hi_35 ih_35 => ?_) 0 (Nat.zero_le _)
      refine V.iload E dX5_read_35 rfl ?_
      refine V.aload_n E dX5_read_37 rfl rfl ?_
      refine V.getf (C := RX5) (T := TX5) (N := 17) (ref := "GlassSpillModel") E 0 5 16 (by decide +kernel) rfl rfl (by decide) (by decide +kernel) rfl rfl dX5_read_38 ?_
      refine V.topN (b := n_) (hn_) ?_
      refine V.icmp_geN (tgt := 87) E (by have := hG.1; omega) (by have := hG.1; omega) dX5_read_41 (by decide) (fun q_41 => ?_) (fun q_41 => ?_)
      · obtain rfl : n_ = i35 := by omega
        refine V.aload_n E dX5_read_87 rfl rfl ?_
        refine V.iconst (v := nI (0)) E dX5_read_88 (by decide) ?_
        refine V.putf (C := RX5) (T := TX5) (N := 17) (ref := "GlassSpillModel") (ws' := (bl [mdW G a (fla (scS x, scF x, rdF tl tx (8 * w_) (scB x) n_, x.2.2.2)) g_27 sl sv r o k t m e w tx g_15.2.2.2 (hlN hl) 0 g_15.2.1 g_15.2.2.1])) E 0 5 13 (by decide +kernel) tyX5_ok nmX5 rfl rfl (by decide) (by decide +kernel) rfl rfl rfl rfl (Nat.le_of_ble_eq_true rfl) dX5_read_89 rfl ?_
        refine V.iload_n E dX5_read_92 rfl rfl ?_
        exact hend _ _ _ _ dX5_read_93 (nrI _) ⟨(g_27, g_15), rfl, rfl, hf_27⟩
      · refine V.aload_n E dX5_read_44 rfl rfl ?_
        refine V.getf (C := RX5) (T := TX5) (N := 17) (ref := "GlassSpillModel") E 0 5 15 (by decide +kernel) rfl rfl (by decide) (by decide +kernel) rfl rfl dX5_read_45 ?_
        refine V.iload E dX5_read_48 rfl ?_
        refine V.ialdN (v := cvI tl tx (stp tx i35)) E 13 rfl (by have := hG.1; omega) (by decide) (hcl i35 (by omega)) dX5_read_50 ?_
        refine V.if_lt (tgt := 81) E dX5_read_51 (by decide) (fun q_51 => ?_) (fun q_51 => ?_)
        · refine V.iincN (lv' := [some (.ref (a 0)), some (.int (nI (bN false))), some (.int (nI (w_))), some (.int (nI (rdC tx i35))), some (.int (nI (i35 + 1)))]) E dX5_read_81 rfl (Nat.le_of_ble_eq_true rfl) rfl rfl ?_
          refine V.goto (tgt := 35) E dX5_read_84 (by decide) ?_
          refine V.locN (b := rdC tx (i35 + 1)) (lv' := [some (.ref (a 0)), some (.int (nI (bN false))), some (.int (nI (w_))), some (.int (nI (rdC tx (i35 + 1)))), some (.int (nI (i35 + 1)))]) 3 (rdC_d (cvI_lt (hG.2.2 i35 (by omega)) q_51)) rfl rfl ?_
          refine V.arr (f' := nA (fla (scS x, scF x, rdF tl tx (8 * w_) (scB x) (i35 + 1), x.2.2.2))) (ws' := (bl [mdW G a (fla (scS x, scF x, rdF tl tx (8 * w_) (scB x) (i35 + 1), x.2.2.2)) g_27 sl sv r o k t m e w tx g_15.2.2.2 (hlN hl) tl g_15.2.1 g_15.2.2.1])) 1 rfl (fun j _ => by rw [rdF_d (cvI_lt (hG.2.2 i35 (by omega)) q_51)]) rfl ?_
          exact ih_35 (by omega)
        · refine V.aload_n E dX5_read_54 rfl rfl ?_
          refine V.getf (C := RX5) (T := TX5) (N := 17) (ref := "GlassSpillModel") E 0 5 0 (by decide +kernel) rfl rfl (by decide) (by decide +kernel) rfl rfl dX5_read_55 ?_
          refine V.iload_n E dX5_read_58 rfl rfl ?_
          refine V.callS E (c_X5_picture_f G  ) (bl [mdW G a (fla (scS x, scF x, rdF tl tx (8 * w_) (scB x) i35, x.2.2.2)) g_27 sl sv r o k t m e w tx g_15.2.2.2 (hlN hl) tl g_15.2.1 g_15.2.2.1]) [.ref (a 1)] gX5_read_X5_picture rfl hd_X5_picture ⟨⟨Nat.le_of_ble_eq_true rfl, Nat.le_of_ble_eq_true rfl⟩, Nat.le_of_ble_eq_true rfl, Nat.le_of_ble_eq_true rfl⟩ rfl (Nat.le_of_ble_eq_true rfl) rfl dX5_read_59 (List.Perm.refl _) (kc' := 0) (ks' := 0) rfl rfl (rwI (ws' := (bl [mdW G a (fla (scS x, scF x, rdF tl tx (8 * w_) (scB x) i35, x.2.2.2)) g_27 sl sv r o k t m e w tx g_15.2.2.2 (hlN hl) tl g_15.2.1 g_15.2.2.1])) (List.Perm.refl _) ?_)
          refine V.bipush (v := nI (8)) E dX5_read_62 (by decide) ?_
          refine V.iload_n E dX5_read_64 rfl rfl ?_
          refine V.imulN E  dX5_read_65 ?_
          refine V.iaddN E  dX5_read_66 ?_
          refine V.iload E dX5_read_67 rfl ?_
          refine V.iaddN E  dX5_read_69 ?_
          refine V.aload_n E dX5_read_70 rfl rfl ?_
          refine V.getf (C := RX5) (T := TX5) (N := 17) (ref := "GlassSpillModel") E 0 5 15 (by decide +kernel) rfl rfl (by decide) (by decide +kernel) rfl rfl dX5_read_71 ?_
          refine V.iload E dX5_read_74 rfl ?_
          refine V.ialdN (v := nI (cv3 tl tx (stp tx i35))) E 13 rfl (by have := hG.1; omega) (by decide) ((hcl i35 (by omega)).trans (cvI_n (cvI_ge q_51))) dX5_read_76 ?_
          refine V.iastN (f' := nA (fla (scS x, scF x, rdF tl tx (8 * w_) (scB x) (i35 + 1), x.2.2.2))) (ws' := (bl [mdW G a (fla (scS x, scF x, rdF tl tx (8 * w_) (scB x) (i35 + 1), x.2.2.2)) g_27 sl sv r o k t m e w tx g_15.2.2.2 (hlN hl) tl g_15.2.1 g_15.2.2.1])) E 1 rfl (by have := hG.1; omega) (by decide) dX5_read_77 (fun j _ => by rw [show (55 + (8 * w_)) + i35 = 55 + (8 * w_ + i35) by omega]; exact fla_vB (p := 8 * w_ + i35) (by have := hG.1; omega) (fun j => by rw [rdF_n (cvI_ge q_51)]) j) rfl ?_
          refine V.iincN (lv' := [some (.ref (a 0)), some (.int (nI (bN false))), some (.int (nI (w_))), some (.int (nI (rdC tx i35 + 1))), some (.int (nI (i35)))]) E dX5_read_78 rfl (Nat.le_of_ble_eq_true rfl) rfl rfl ?_
          refine V.iincN (lv' := [some (.ref (a 0)), some (.int (nI (bN false))), some (.int (nI (w_))), some (.int (nI (rdC tx i35 + 1))), some (.int (nI (i35 + 1)))]) E dX5_read_81 rfl (Nat.le_of_ble_eq_true rfl) rfl rfl ?_
          refine V.goto (tgt := 35) E dX5_read_84 (by decide) ?_
          refine V.locN (b := rdC tx (i35 + 1)) (lv' := [some (.ref (a 0)), some (.int (nI (bN false))), some (.int (nI (w_))), some (.int (nI (rdC tx (i35 + 1)))), some (.int (nI (i35 + 1)))]) 3 (rdC_n (cvI_ge q_51)) rfl rfl ?_
          exact ih_35 (by omega)
    · exact absurd hf q_20
  · exact absurd ((okI_n hw (by omega)).symm.trans q_9) (by decide)
