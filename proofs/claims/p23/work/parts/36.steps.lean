/-! isStep: what its cases rest on -/
theorem hvA {k v : Nat} (hk : k < 2) (hv2 : v < 46) : v ≤ hv k := by
  rcases (show k = 0 ∨ k = 1 by omega) with rfl | rfl
  · show v ≤ 45; omega
  · show v ≤ 45; omega
theorem hvB {k v : Nat} (h2 : 2 ≤ k) (hk : k < 5) (hv2 : v < 17) : v ≤ hv k := by
  rcases (show k = 2 ∨ k = 3 ∨ k = 4 by omega) with rfl | rfl | rfl
  · show v ≤ 16; omega
  · show v ≤ 16; omega
  · show v ≤ 16; omega
theorem hvC {k v : Nat} (h2 : 5 ≤ k) (hk : k < 6) (hv2 : v < 2) : v ≤ hv k := by
  rcases (show k = 5 by omega) with rfl
  show v ≤ 1; omega
theorem hv45 : ∀ k, k < 6 → hv k ≤ 45 := by decide
theorem ord0 {x : SC} {k v : Nat} (t n : Nat) (e : k = 0) : ordN x k v = decide (v < cnN x t n 1) := by subst e; rfl
theorem ord1 {x : SC} {k v : Nat} (t n : Nat) (e : k = 1) : ordN x k v = decide (cnN x t n 0 < v) := by subst e; rfl
theorem ord2 {x : SC} {k v : Nat} (hx : SInv x) (h0 : k ≠ 0) (h1 : k ≠ 1) : ordN x k v = true := by
  unfold ordN
  rw [if_neg h0, if_neg h1]
  exact decide_eq_true hx.lt
theorem aset_t {q : OQ} {k v t n : Nat} (hk : k < 6) (ho : ordN (oX q) k v = true) : aSet q k v = nI (cnN (oX q) t n k) := by
  unfold aSet cnN
  rw [if_pos ho, if_pos hk]
theorem aset_f {q : OQ} {k v : Nat} (ho : ordN (oX q) k v = false) : aSet q k v = -5 := if_neg (by rw [ho]; decide)
theorem aif_f {x : SC} {k v : Nat} (ho : ordN x k v = false) : aIf x k v = -5 := if_neg (by rw [ho]; decide)
theorem ifs_le (f g : Nat → Nat) : sumN 48 (fun j => bN (!decide (f j = g j))) ≤ 48 := by
  have := sumN_le (n := 48) (f := fun j => bN (!decide (f j = g j))) (b := 1) (fun _ _ => bN_le _)
  omega
theorem inR_l (p r : Nat) : inR p r p = true := by
  unfold inR
  rw [Bool.and_eq_true, decide_eq_true_eq, decide_eq_true_eq]
  omega
theorem inR_r (p r : Nat) : inR p r r = true := by
  unfold inR
  rw [Bool.and_eq_true, decide_eq_true_eq, decide_eq_true_eq]
  omega
theorem knd4 (x : SC) (p : Nat) : kndF x p = 4 ↔ scG x p = 1 := by
  have hu := knU_le (opqF x) p
  have hk : kndF x p = if scG x p = 1 then 4 else knU (opqF x) p := rfl
  by_cases c : scG x p = 1
  · rw [if_pos c] at hk; exact ⟨fun _ => c, fun _ => hk⟩
  · rw [if_neg c] at hk; exact ⟨fun e => by omega, fun e => absurd e c⟩
theorem mrk_t {q : OQ} {p t n : Nat} (hq : OBI q) (hp : p < 48) (hg : ¬ scG (oX q) p = 1) : aMrk q p true = nI (cnN (oX q) t n 18 + 1) := by
  have h1 := hq.x.g p hp
  have h2 := sumN_up (f := scG (oX q)) (k := p) (v := 1) (n := 48) hp
  unfold aMrk
  rw [if_neg (show ¬ scG (oX q) p = bN true from hg)]
  show nI (sumN 48 (upN (scG (oX q)) p 1)) = nI (sumN 48 (scG (oX q)) + 1)
  exact congrArg nI (by omega)
theorem mrk_f {q : OQ} {p t n : Nat} (hq : OBI q) (hp : p < 48) (hg : scG (oX q) p = 1) : aMrk q p false = nI (cnN (oX q) t n 18) + -1 := by
  have h2 := sumN_up (f := scG (oX q)) (k := p) (v := 0) (n := 48) hp
  unfold aMrk
  rw [if_neg (show ¬ scG (oX q) p = bN false from fun e => absurd (hg.symm.trans e) (by decide))]
  show nI (sumN 48 (upN (scG (oX q)) p 0)) = nI (sumN 48 (scG (oX q))) + -1
  rw [m1N (by omega)]
  exact congrArg nI (by omega)
theorem mrk_c {q : OQ} {p t n : Nat} {b : Bool} (hg : ¬ scG (oX q) p = bN b) : aMrk q p b = nI (cnN (oX (qMrk q p b)) t n 18) := by
  unfold aMrk qMrk
  rw [if_neg hg, if_neg hg]
  rfl
theorem mrk_s (q : OQ) (p : Nat) (b : Bool) : scG (oX (qMrk q p b)) p = bN b := by
  unfold qMrk
  by_cases e : scG (oX q) p = bN b
  · rw [if_pos e]; exact e
  · rw [if_neg e]; exact upN_s
theorem mrk_a (q : OQ) (p : Nat) (b : Bool) : aMrk (qMrk q p b) p b = -5 := if_pos (mrk_s q p b)
theorem mrk_q (q : OQ) (p : Nat) (b : Bool) : qMrk (qMrk q p b) p b = qMrk q p b := if_pos (mrk_s q p b)
theorem Rel.mark2 {q r : OQ} (h : Rel q r) (p : Nat) (b : Bool) : Rel (qMrk (qMrk q p b) p b) (qMrk r (mP p) b) := by
  rw [mrk_q]
  exact h.mark p b
theorem Rel.pik {q r : OQ} (h : Rel q r) (b : Bool) (p : Nat) : pic b (oX r) (mP p) = pic b (oX q) p := by
  rw [h.x, pic_m]
  show pic b (oX q) (mP (mP p)) = _
  rw [mP_mP]
theorem shl_b : ∀ a, a < 2 → ∀ b, b < 3 → a * 2 ^ (4 * b) < 4096 := by decide
theorem xor_n {a b : Nat} (ha : a < 4096) (hb : b < 4096) : nI a ^^^ nI b = nI (a ^^^ b) ∧ a ^^^ b < 4096 := by
  have hl : a ^^^ b < 2 ^ 12 := Nat.xor_lt_two_pow ha hb
  refine ⟨?_, hl⟩
  apply Int32.toBitVec_inj.mp
  rw [Int32.toBitVec_xor, ni_bv, ni_bv, ni_bv]
  apply BitVec.eq_of_toNat_eq
  rw [BitVec.toNat_xor, BitVec.toNat_ofNat, BitVec.toNat_ofNat, BitVec.toNat_ofNat, Nat.mod_eq_of_lt (by omega), Nat.mod_eq_of_lt (by omega), Nat.mod_eq_of_lt (by omega)]
theorem cn_le {x : SC} (k : Nat) (h1 : 12 ≤ k) (h : 16 ≤ k) (h2 : k < 18) (t n : Nat) : cnN x t n k ≤ 48 := by
  have : ∀ j, ovf x k j ≤ 1 := fun j => by
    unfold ovf
    rw [if_neg (by omega), if_neg (by omega), if_neg (by omega), if_neg (by omega)]
    split <;> exact bN_le _
  have h3 := sumN_le (n := 48) (f := ovf x k) (b := 1) (fun j _ => this j)
  unfold cnN
  rw [if_neg (by omega), if_neg (by omega), if_neg (by omega), if_pos (by omega)]
  omega
theorem kp_n (x : SC) (t n : Nat) : sumN 48 (fun j => bN (!decide (scF x j = cmpF x j))) = 48 - cnN x t n 17 := (eqN_c (cmpF x) (scF x)).symm
theorem kp_18 (q : OQ) (t n : Nat) : cnN (oX (qKep q)) t n 18 = 0 := by
  have h := sumN_le (n := 48) (f := zN) (b := 0) (fun j _ => Nat.le_refl 0)
  show sumN 48 zN = 0
  omega
abbrev rm_o_isStep : Room := { frames := 8, cells := 10, slots := 310, locals := 184 }
abbrev HES (G : VC) (A : Nat → Prop) (X : VX) (a1 h1 a2 h2 : AD) : Prop := ∀ (u : va_W) (pc : Nat) (lv : List (Option Value)) (v : Int32), decode cL_isStep pc = .ok (.ireturn, 1) → narrow .boolean (.int v) = .int v → ( ∃ zz : OQ × OJ × OQ × OJ, u = (bl [obW G a1 h1 zz.1 zz.2.1, obW G a2 h2 zz.2.2.1 zz.2.2.2, slB G zz.1, slB G zz.2.2.1]) ∧ some (Value.int v) = some (Value.int (nI (1))) ∧ (Rel zz.1 zz.2.2.1)) → V G A X rm_o_isStep u rm_o_isStep.cells rm_o_isStep.slots pc lv [.int v]
set_option maxRecDepth 100000 in
set_option maxHeartbeats 8000000 in
theorem st_152 {G : VC} {A : Nat → Prop} {X : VX} (E : Ev G A X cL_isStep RL wsL_isStep 14) {a1 h1 a2 h2 : AD} (hend : HES G A X a1 h1 a2 h2) {q1 q2 : OQ} (j1 j2 : OJ) (h : Rel q1 q2) (x_ y_ z_ : Int32) {p_ : Nat} (hp : p_ < 48) (fr : Bool) {c : Nat} (hc : c < 4096) : V G A X rm_o_isStep (bl [obW G a1 h1 q1 j1, obW G a2 h2 q2 j2, slB G q1, slB G q2]) 0 0 152 [some (.ref (a1 0 0)), some (.ref (a2 0 0)), some (.int (x_)), some (.int (y_)), some (.int (z_)), some (.int (nI (p_))), some (.int (nI (bN fr))), some (.int (nI (c))), none, none, none, none, none, none] [] := by
  refine V.iload E dL_isStep_152 rfl ?_
  refine V.bipush (v := nI (6)) E dL_isStep_154 (by decide) ?_
  refine V.callS E (c_L_up G z_ 6 (by decide) (by decide)) (bl [obW G a1 h1 q1 j1, obW G a2 h2 q2 j2, slB G q1, slB G q2]) [] gL_isStep_L_up rfl hd_L_up ⟨⟨Nat.le_of_ble_eq_true rfl, Nat.le_of_ble_eq_true rfl⟩, Nat.le_of_ble_eq_true rfl, Nat.le_of_ble_eq_true rfl⟩ rfl (Nat.le_of_ble_eq_true rfl) rfl dL_isStep_156 (List.Perm.refl _) (kc' := 0) (ks' := 0) rfl rfl (rwI (ws' := (bl [obW G a1 h1 q1 j1, obW G a2 h2 q2 j2, slB G q1, slB G q2])) (List.Perm.refl _) ?_)
  refine V.nmN (fun k_ ek_ => ?_)
  have hk_ : k_ < 6 := by rw [ek_]; exact upv_lt _ (by decide)
  refine V.istore (lv' := [some (.ref (a1 0 0)), some (.ref (a2 0 0)), some (.int (x_)), some (.int (y_)), some (.int (z_)), some (.int (nI (p_))), some (.int (nI (bN fr))), some (.int (nI (c))), some (.int (nI (k_))), none, none, none, none, none]) E dL_isStep_159 (Nat.le_of_ble_eq_true rfl) rfl rfl ?_
  have hJ_196 : ∀ (v_ : Nat) (hv_ : v_ ≤ hv k_), V G A X rm_o_isStep (bl [obW G a1 h1 q1 j1, obW G a2 h2 q2 j2, slB G q1, slB G q2]) 0 0 196 [some (.ref (a1 0 0)), some (.ref (a2 0 0)), some (.int (x_)), some (.int (y_)), some (.int (z_)), some (.int (nI (p_))), some (.int (nI (bN fr))), some (.int (nI (c))), some (.int (nI (k_))), none, none, none, none, none] [.int (nI (v_))] := by
    intro v_ hv_
    refine V.istore (lv' := [some (.ref (a1 0 0)), some (.ref (a2 0 0)), some (.int (x_)), some (.int (y_)), some (.int (z_)), some (.int (nI (p_))), some (.int (nI (bN fr))), some (.int (nI (c))), some (.int (nI (k_))), some (.int (nI (v_))), none, none, none, none]) E dL_isStep_196 (Nat.le_of_ble_eq_true rfl) rfl rfl ?_
    refine V.aload_n E dL_isStep_198 rfl rfl ?_
    refine V.iload E dL_isStep_199 rfl ?_
    refine V.callV (C := RX4) E (o_count G a1 h1 q1 j1 k_ (h.q) (by omega)) (bl [obW G a2 h2 q2 j2, slB G q2]) [] 0 4 rfl rfl rfl gL_isStep_X4_count rfl ⟨rfl, hd_X4_count⟩ ⟨⟨Nat.le_of_ble_eq_true rfl, Nat.le_of_ble_eq_true rfl⟩, Nat.le_of_ble_eq_true rfl, Nat.le_of_ble_eq_true rfl⟩ rfl (Nat.le_of_ble_eq_true rfl) rfl dL_isStep_201 (pBs (n := 4) [obW G a1 h1 q1 j1, obW G a2 h2 q2 j2, slB G q1, slB G q2] [0, 2] [1, 3] rfl (by decide)) (kc' := 0) (ks' := 0) rfl rfl (rxI (ws' := fun (g_201 : OJ) => (bl [obW G a1 h1 q1 g_201, obW G a2 h2 q2 j2, slB G q1, slB G q2])) (fun g_201 => (pBs (n := 4) [obW G a1 h1 q1 g_201, obW G a2 h2 q2 j2, slB G q1, slB G q2] [0, 2] [1, 3] rfl (by decide)).symm) (fun g_201 hf_201 => ?_))
    refine V.istore (lv' := [some (.ref (a1 0 0)), some (.ref (a2 0 0)), some (.int (x_)), some (.int (y_)), some (.int (z_)), some (.int (nI (p_))), some (.int (nI (bN fr))), some (.int (nI (c))), some (.int (nI (k_))), some (.int (nI (v_))), some (.int (nI (cnN (oX q1) (oL q1) (oN q1) k_))), none, none, none]) E dL_isStep_204 (Nat.le_of_ble_eq_true rfl) rfl rfl ?_
    have hv9 : v_ < 2 ^ 31 := by have := hv45 k_ hk_; omega
    have hJ_250 : ∀ (jj : OJ) (b : Bool) (hb : ordN (oX q1) k_ v_ = b), V G A X rm_o_isStep (bl [obW G a1 h1 q1 jj, obW G a2 h2 q2 j2, slB G q1, slB G q2]) 0 0 250 [some (.ref (a1 0 0)), some (.ref (a2 0 0)), some (.int (x_)), some (.int (y_)), some (.int (z_)), some (.int (nI (p_))), some (.int (nI (bN fr))), some (.int (nI (c))), some (.int (nI (k_))), some (.int (nI (v_))), some (.int (nI (cnN (oX q1) (oL q1) (oN q1) k_))), none, none, none] [.int (nI (bN b))] := by
      intro jj b hb
      refine V.istore (lv' := [some (.ref (a1 0 0)), some (.ref (a2 0 0)), some (.int (x_)), some (.int (y_)), some (.int (z_)), some (.int (nI (p_))), some (.int (nI (bN fr))), some (.int (nI (c))), some (.int (nI (k_))), some (.int (nI (v_))), some (.int (nI (cnN (oX q1) (oL q1) (oN q1) k_))), some (.int (nI (bN b))), none, none]) E dL_isStep_250 (Nat.le_of_ble_eq_true rfl) rfl rfl ?_
      refine V.aload_n E dL_isStep_252 rfl rfl ?_
      refine V.iload E dL_isStep_253 rfl ?_
      refine V.iload E dL_isStep_255 rfl ?_
      refine V.callV (C := RX4) E (o_ifSet G a1 h1 q1 jj k_ v_ (h.q) (hk_) (hv_)) (bl [obW G a2 h2 q2 j2, slB G q2]) [] 0 4 rfl rfl rfl gL_isStep_X4_ifSet rfl ⟨rfl, hd_X4_ifSet⟩ ⟨⟨Nat.le_of_ble_eq_true rfl, Nat.le_of_ble_eq_true rfl⟩, Nat.le_of_ble_eq_true rfl, Nat.le_of_ble_eq_true rfl⟩ rfl (Nat.le_of_ble_eq_true rfl) rfl dL_isStep_257 (pBs (n := 4) [obW G a1 h1 q1 jj, obW G a2 h2 q2 j2, slB G q1, slB G q2] [0, 2] [1, 3] rfl (by decide)) (kc' := 0) (ks' := 0) rfl rfl (rxI (ws' := fun (g_257 : OJ) => (bl [obW G a1 h1 q1 g_257, obW G a2 h2 q2 j2, slB G q1, slB G q2])) (fun g_257 => (pBs (n := 4) [obW G a1 h1 q1 g_257, obW G a2 h2 q2 j2, slB G q1, slB G q2] [0, 2] [1, 3] rfl (by decide)).symm) (fun g_257 hf_257 => ?_))
      refine V.istore (lv' := [some (.ref (a1 0 0)), some (.ref (a2 0 0)), some (.int (x_)), some (.int (y_)), some (.int (z_)), some (.int (nI (p_))), some (.int (nI (bN fr))), some (.int (nI (c))), some (.int (nI (k_))), some (.int (nI (v_))), some (.int (nI (cnN (oX q1) (oL q1) (oN q1) k_))), some (.int (nI (bN b))), some (.int (aIf (oX q1) k_ v_)), none]) E dL_isStep_260 (Nat.le_of_ble_eq_true rfl) rfl rfl ?_
      refine V.aload_n E dL_isStep_262 rfl rfl ?_
      refine V.iload E dL_isStep_263 rfl ?_
      refine V.iload E dL_isStep_265 rfl ?_
      refine V.callV (C := RX4) E (o_set G a1 h1 q1 g_257 k_ v_ (h.q) (hk_) (hv_)) (bl [obW G a2 h2 q2 j2, slB G q2]) [] 0 4 rfl rfl rfl gL_isStep_X4_set rfl ⟨rfl, hd_X4_set⟩ ⟨⟨Nat.le_of_ble_eq_true rfl, Nat.le_of_ble_eq_true rfl⟩, Nat.le_of_ble_eq_true rfl, Nat.le_of_ble_eq_true rfl⟩ rfl (Nat.le_of_ble_eq_true rfl) rfl dL_isStep_267 (pBs (n := 4) [obW G a1 h1 q1 g_257, obW G a2 h2 q2 j2, slB G q1, slB G q2] [0, 2] [1, 3] rfl (by decide)) (kc' := 0) (ks' := 0) rfl rfl (rxI (ws' := fun (g_267 : OJ) => (bl [obW G a1 h1 (qSet q1 k_ v_) g_267, obW G a2 h2 q2 j2, slB G (qSet q1 k_ v_), slB G q2])) (fun g_267 => (pBs (n := 4) [obW G a1 h1 (qSet q1 k_ v_) g_267, obW G a2 h2 q2 j2, slB G (qSet q1 k_ v_), slB G q2] [0, 2] [1, 3] rfl (by decide)).symm) (fun g_267 hf_267 => ?_))
      refine V.istore (lv' := [some (.ref (a1 0 0)), some (.ref (a2 0 0)), some (.int (x_)), some (.int (y_)), some (.int (z_)), some (.int (nI (p_))), some (.int (nI (bN fr))), some (.int (nI (c))), some (.int (nI (k_))), some (.int (nI (v_))), some (.int (nI (cnN (oX q1) (oL q1) (oN q1) k_))), some (.int (nI (bN b))), some (.int (aIf (oX q1) k_ v_)), some (.int (aSet q1 k_ v_))]) E dL_isStep_270 (Nat.le_of_ble_eq_true rfl) rfl rfl ?_
      refine V.iload E dL_isStep_272 rfl ?_
      refine V.aload_n E dL_isStep_274 rfl rfl ?_
      refine V.iload E dL_isStep_275 rfl ?_
      refine V.iload E dL_isStep_277 rfl ?_
      refine V.callV (C := RX4) E (o_set G a2 h2 q2 j2 k_ v_ (h.r) (hk_) (hv_)) (bl [obW G a1 h1 (qSet q1 k_ v_) g_267, slB G (qSet q1 k_ v_)]) [.int (aSet q1 k_ v_)] 66 4 rfl rfl rfl gL_isStep_X4_set rfl ⟨rfl, hd_X4_set⟩ ⟨⟨Nat.le_of_ble_eq_true rfl, Nat.le_of_ble_eq_true rfl⟩, Nat.le_of_ble_eq_true rfl, Nat.le_of_ble_eq_true rfl⟩ rfl (Nat.le_of_ble_eq_true rfl) rfl dL_isStep_279 (pBs (n := 4) [obW G a1 h1 (qSet q1 k_ v_) g_267, obW G a2 h2 q2 j2, slB G (qSet q1 k_ v_), slB G q2] [1, 3] [0, 2] rfl (by decide)) (kc' := 0) (ks' := 0) rfl rfl (rxI (ws' := fun (g_279 : OJ) => (bl [obW G a1 h1 (qSet q1 k_ v_) g_267, obW G a2 h2 (qSet q2 k_ v_) g_279, slB G (qSet q1 k_ v_), slB G (qSet q2 k_ v_)])) (fun g_279 => (pBs (n := 4) [obW G a1 h1 (qSet q1 k_ v_) g_267, obW G a2 h2 (qSet q2 k_ v_) g_279, slB G (qSet q1 k_ v_), slB G (qSet q2 k_ v_)] [1, 3] [0, 2] rfl (by decide)).symm) (fun g_279 hf_279 => ?_))
      refine V.icmp_ne (tgt := 333) E dL_isStep_282 (by decide) (fun q_282 => ?_) (fun q_282 => ?_)
      · exact absurd (h.aset k_ v_).symm q_282
      · refine V.iload E dL_isStep_285 rfl ?_
        refine V.iload E dL_isStep_287 rfl ?_
        refine V.if_eqB (tgt := 297) E dL_isStep_289 (by decide) (fun q_289 => ?_) (fun q_289 => ?_)
        · refine V.bipush (v := (-5 : Int32)) E dL_isStep_297 (by decide) ?_
          refine V.icmp_ne (tgt := 333) E dL_isStep_299 (by decide) (fun q_299 => ?_) (fun q_299 => ?_)
          · exact absurd (aset_f (hb.trans q_289)) q_299
          · refine V.iload E dL_isStep_302 rfl ?_
            refine V.if_eqB (tgt := 322) E dL_isStep_304 (by decide) (fun q_304 => ?_) (fun q_304 => ?_)
            · refine V.iload E dL_isStep_322 rfl ?_
              refine V.iload E dL_isStep_324 rfl ?_
              refine V.icmp_ne (tgt := 333) E dL_isStep_326 (by decide) (fun q_326 => ?_) (fun q_326 => ?_)
              · exact absurd ((aif_f (hb.trans q_289)).trans (aset_f (hb.trans q_289)).symm) q_326
              · refine V.iconst (v := nI (1)) E dL_isStep_329 (by decide) ?_
                refine V.goto (tgt := 334) E dL_isStep_330 (by decide) ?_
                refine V.widen (k := 10) (n := 310) (Nat.le_of_ble_eq_true rfl) (Nat.le_of_ble_eq_true rfl) ?_
                exact hend _ _ _ _ dL_isStep_334 (nrB true) ⟨(qSet q1 k_ v_, g_267, qSet q2 k_ v_, g_279), rfl, rfl, h.set hv_⟩
            · exact absurd (q_289.symm.trans q_304) (by decide)
        · refine V.iload E dL_isStep_292 rfl ?_
          refine V.goto (tgt := 299) E dL_isStep_294 (by decide) ?_
          refine V.icmp_ne (tgt := 333) E dL_isStep_299 (by decide) (fun q_299 => ?_) (fun q_299 => ?_)
          · exact absurd (aset_t hk_ (hb.trans q_289)) q_299
          · refine V.iload E dL_isStep_302 rfl ?_
            refine V.if_eqB (tgt := 322) E dL_isStep_304 (by decide) (fun q_304 => ?_) (fun q_304 => ?_)
            · exact absurd (q_289.symm.trans q_304) (by decide)
            · refine V.loc (y := nI (sumN 48 (fun j => bN (!decide (cmpF (oX q1) j = cmpF (upN (scS (oX q1)) k_ v_, (oX q1).2) j))))) (lv' := [some (.ref (a1 0 0)), some (.ref (a2 0 0)), some (.int (x_)), some (.int (y_)), some (.int (z_)), some (.int (nI (p_))), some (.int (nI (bN fr))), some (.int (nI (c))), some (.int (nI (k_))), some (.int (nI (v_))), some (.int (nI (cnN (oX q1) (oL q1) (oN q1) k_))), some (.int (nI (bN b))), some (.int (nI (sumN 48 (fun j => bN (!decide (cmpF (oX q1) j = cmpF (upN (scS (oX q1)) k_ v_, (oX q1).2) j)))))), some (.int (aSet q1 k_ v_))]) 12 (if_pos (hb.trans q_289)) rfl rfl ?_
              refine V.iload E dL_isStep_307 rfl ?_
              refine V.if_ltN (tgt := 333) E (Nat.lt_of_le_of_lt (ifs_le _ _) (by decide)) dL_isStep_309 (by decide) ?_
              refine V.iload E dL_isStep_312 rfl ?_
              refine V.bipush (v := nI (48)) E dL_isStep_314 (by decide) ?_
              refine V.icmp_gtN (tgt := 333) E (Nat.lt_of_le_of_lt (ifs_le _ _) (by decide)) (by decide) dL_isStep_316 (by decide) (fun q_316 => ?_) (fun q_316 => ?_)
              · exact absurd (ifs_le _ _) (Nat.not_le.mpr q_316)
              · refine V.goto (tgt := 329) E dL_isStep_319 (by decide) ?_
                refine V.iconst (v := nI (1)) E dL_isStep_329 (by decide) ?_
                refine V.goto (tgt := 334) E dL_isStep_330 (by decide) ?_
                refine V.widen (k := 10) (n := 310) (Nat.le_of_ble_eq_true rfl) (Nat.le_of_ble_eq_true rfl) ?_
                exact hend _ _ _ _ dL_isStep_334 (nrB true) ⟨(qSet q1 k_ v_, g_267, qSet q2 k_ v_, g_279), rfl, rfl, h.set hv_⟩
    refine V.iload E dL_isStep_206 rfl ?_
    refine V.if_neN (tgt := 229) E (by omega) dL_isStep_208 (by decide) (fun q_208 => ?_) (fun q_208 => ?_)
    · refine V.iload E dL_isStep_229 rfl ?_
      refine V.iconst (v := nI (1)) E dL_isStep_231 (by decide) ?_
      refine V.icmp_neN (tgt := 245) E (by omega) (by omega) dL_isStep_232 (by decide) (fun q_232 => ?_) (fun q_232 => ?_)
      · refine V.iconst (v := nI (1)) E dL_isStep_245 (by decide) ?_
        refine V.goto (tgt := 250) E dL_isStep_246 (by decide) ?_
        exact hJ_250 _ true (ord2 h.q.x q_208 q_232)
      · refine V.iload E dL_isStep_235 rfl ?_
        refine V.aload_n E dL_isStep_237 rfl rfl ?_
        refine V.iconst (v := nI (0)) E dL_isStep_238 (by decide) ?_
        refine V.callV (C := RX4) E (o_count G a1 h1 q1 g_201 0 (h.q) (by decide)) (bl [obW G a2 h2 q2 j2, slB G q2]) [.int (nI (v_))] 0 4 rfl rfl rfl gL_isStep_X4_count rfl ⟨rfl, hd_X4_count⟩ ⟨⟨Nat.le_of_ble_eq_true rfl, Nat.le_of_ble_eq_true rfl⟩, Nat.le_of_ble_eq_true rfl, Nat.le_of_ble_eq_true rfl⟩ rfl (Nat.le_of_ble_eq_true rfl) rfl dL_isStep_239 (pBs (n := 4) [obW G a1 h1 q1 g_201, obW G a2 h2 q2 j2, slB G q1, slB G q2] [0, 2] [1, 3] rfl (by decide)) (kc' := 0) (ks' := 0) rfl rfl (rxI (ws' := fun (g_239 : OJ) => (bl [obW G a1 h1 q1 g_239, obW G a2 h2 q2 j2, slB G q1, slB G q2])) (fun g_239 => (pBs (n := 4) [obW G a1 h1 q1 g_239, obW G a2 h2 q2 j2, slB G q1, slB G q2] [0, 2] [1, 3] rfl (by decide)).symm) (fun g_239 hf_239 => ?_))
        refine V.icmp_leN (tgt := 249) E hv9 (Nat.lt_trans (cnN_b h.q.x h.q.t.1 h.q.n _) (by decide)) dL_isStep_242 (by decide) (fun q_242 => ?_) (fun q_242 => ?_)
        · refine V.iconst (v := nI (0)) E dL_isStep_249 (by decide) ?_
          exact hJ_250 _ false ((ord1 (oL q1) (oN q1) q_232).trans (decide_eq_false (by omega)))
        · refine V.iconst (v := nI (1)) E dL_isStep_245 (by decide) ?_
          refine V.goto (tgt := 250) E dL_isStep_246 (by decide) ?_
          exact hJ_250 _ true ((ord1 (oL q1) (oN q1) q_232).trans (decide_eq_true q_242))
    · refine V.iload E dL_isStep_211 rfl ?_
      refine V.aload_n E dL_isStep_213 rfl rfl ?_
      refine V.iconst (v := nI (1)) E dL_isStep_214 (by decide) ?_
      refine V.callV (C := RX4) E (o_count G a1 h1 q1 g_201 1 (h.q) (by decide)) (bl [obW G a2 h2 q2 j2, slB G q2]) [.int (nI (v_))] 0 4 rfl rfl rfl gL_isStep_X4_count rfl ⟨rfl, hd_X4_count⟩ ⟨⟨Nat.le_of_ble_eq_true rfl, Nat.le_of_ble_eq_true rfl⟩, Nat.le_of_ble_eq_true rfl, Nat.le_of_ble_eq_true rfl⟩ rfl (Nat.le_of_ble_eq_true rfl) rfl dL_isStep_215 (pBs (n := 4) [obW G a1 h1 q1 g_201, obW G a2 h2 q2 j2, slB G q1, slB G q2] [0, 2] [1, 3] rfl (by decide)) (kc' := 0) (ks' := 0) rfl rfl (rxI (ws' := fun (g_215 : OJ) => (bl [obW G a1 h1 q1 g_215, obW G a2 h2 q2 j2, slB G q1, slB G q2])) (fun g_215 => (pBs (n := 4) [obW G a1 h1 q1 g_215, obW G a2 h2 q2 j2, slB G q1, slB G q2] [0, 2] [1, 3] rfl (by decide)).symm) (fun g_215 hf_215 => ?_))
      refine V.icmp_geN (tgt := 225) E hv9 (Nat.lt_trans (cnN_b h.q.x h.q.t.1 h.q.n _) (by decide)) dL_isStep_218 (by decide) (fun q_218 => ?_) (fun q_218 => ?_)
      · refine V.iconst (v := nI (0)) E dL_isStep_225 (by decide) ?_
        refine V.goto (tgt := 250) E dL_isStep_226 (by decide) ?_
        exact hJ_250 _ false ((ord0 (oL q1) (oN q1) q_208).trans (decide_eq_false (by omega)))
      · refine V.iconst (v := nI (1)) E dL_isStep_221 (by decide) ?_
        refine V.goto (tgt := 250) E dL_isStep_222 (by decide) ?_
        exact hJ_250 _ true ((ord0 (oL q1) (oN q1) q_208).trans (decide_eq_true q_218))
  refine V.iload E dL_isStep_161 rfl ?_
  refine V.iconst (v := nI (2)) E dL_isStep_163 (by decide) ?_
  refine V.icmp_geN (tgt := 176) E (by omega) (by omega) dL_isStep_164 (by decide) (fun q_164 => ?_) (fun q_164 => ?_)
  · refine V.iload E dL_isStep_176 rfl ?_
    refine V.iconst (v := nI (5)) E dL_isStep_178 (by decide) ?_
    refine V.icmp_geN (tgt := 191) E (by omega) (by omega) dL_isStep_179 (by decide) (fun q_179 => ?_) (fun q_179 => ?_)
    · refine V.iload_n E dL_isStep_191 rfl rfl ?_
      refine V.iconst (v := nI (2)) E dL_isStep_192 (by decide) ?_
      refine V.callS E (c_L_up G y_ 2 (by decide) (by decide)) (bl [obW G a1 h1 q1 j1, obW G a2 h2 q2 j2, slB G q1, slB G q2]) [] gL_isStep_L_up rfl hd_L_up ⟨⟨Nat.le_of_ble_eq_true rfl, Nat.le_of_ble_eq_true rfl⟩, Nat.le_of_ble_eq_true rfl, Nat.le_of_ble_eq_true rfl⟩ rfl (Nat.le_of_ble_eq_true rfl) rfl dL_isStep_193 (List.Perm.refl _) (kc' := 0) (ks' := 0) rfl rfl (rwI (ws' := (bl [obW G a1 h1 q1 j1, obW G a2 h2 q2 j2, slB G q1, slB G q2])) (List.Perm.refl _) ?_)
      refine V.nmN (fun w2 ew2 => ?_)
      have hw2 : w2 < 2 := by rw [ew2]; exact upv_lt _ (by decide)
      exact hJ_196 _ (hvC (by omega) hk_ hw2)
    · refine V.iload_n E dL_isStep_182 rfl rfl ?_
      refine V.bipush (v := nI (17)) E dL_isStep_183 (by decide) ?_
      refine V.callS E (c_L_up G y_ 17 (by decide) (by decide)) (bl [obW G a1 h1 q1 j1, obW G a2 h2 q2 j2, slB G q1, slB G q2]) [] gL_isStep_L_up rfl hd_L_up ⟨⟨Nat.le_of_ble_eq_true rfl, Nat.le_of_ble_eq_true rfl⟩, Nat.le_of_ble_eq_true rfl, Nat.le_of_ble_eq_true rfl⟩ rfl (Nat.le_of_ble_eq_true rfl) rfl dL_isStep_185 (List.Perm.refl _) (kc' := 0) (ks' := 0) rfl rfl (rwI (ws' := (bl [obW G a1 h1 q1 j1, obW G a2 h2 q2 j2, slB G q1, slB G q2])) (List.Perm.refl _) ?_)
      refine V.nmN (fun w17 ew17 => ?_)
      have hw17 : w17 < 17 := by rw [ew17]; exact upv_lt _ (by decide)
      refine V.goto (tgt := 196) E dL_isStep_188 (by decide) ?_
      exact hJ_196 _ (hvB (by omega) (by omega) hw17)
  · refine V.iload_n E dL_isStep_167 rfl rfl ?_
    refine V.bipush (v := nI (46)) E dL_isStep_168 (by decide) ?_
    refine V.callS E (c_L_up G y_ 46 (by decide) (by decide)) (bl [obW G a1 h1 q1 j1, obW G a2 h2 q2 j2, slB G q1, slB G q2]) [] gL_isStep_L_up rfl hd_L_up ⟨⟨Nat.le_of_ble_eq_true rfl, Nat.le_of_ble_eq_true rfl⟩, Nat.le_of_ble_eq_true rfl, Nat.le_of_ble_eq_true rfl⟩ rfl (Nat.le_of_ble_eq_true rfl) rfl dL_isStep_170 (List.Perm.refl _) (kc' := 0) (ks' := 0) rfl rfl (rwI (ws' := (bl [obW G a1 h1 q1 j1, obW G a2 h2 q2 j2, slB G q1, slB G q2])) (List.Perm.refl _) ?_)
    refine V.nmN (fun w46 ew46 => ?_)
    have hw46 : w46 < 46 := by rw [ew46]; exact upv_lt _ (by decide)
    refine V.goto (tgt := 196) E dL_isStep_173 (by decide) ?_
    exact hJ_196 _ (hvA (by omega) hw46)
set_option maxRecDepth 100000 in
set_option maxHeartbeats 8000000 in
theorem st_335 {G : VC} {A : Nat → Prop} {X : VX} (E : Ev G A X cL_isStep RL wsL_isStep 14) {a1 h1 a2 h2 : AD} (hend : HES G A X a1 h1 a2 h2) {q1 q2 : OQ} (j1 j2 : OJ) (h : Rel q1 q2) (x_ y_ z_ : Int32) {p_ : Nat} (hp : p_ < 48) (fr : Bool) {c : Nat} (hc : c < 4096) : V G A X rm_o_isStep (bl [obW G a1 h1 q1 j1, obW G a2 h2 q2 j2, slB G q1, slB G q2]) 0 0 335 [some (.ref (a1 0 0)), some (.ref (a2 0 0)), some (.int (x_)), some (.int (y_)), some (.int (z_)), some (.int (nI (p_))), some (.int (nI (bN fr))), some (.int (nI (c))), none, none, none, none, none, none] [] := by
  refine V.aload_n E dL_isStep_335 rfl rfl ?_
  refine V.bipush (v := nI (6)) E dL_isStep_336 (by decide) ?_
  refine V.callV (C := RX4) E (o_count G a1 h1 q1 j1 6 (h.q) (by decide)) (bl [obW G a2 h2 q2 j2, slB G q2]) [] 0 4 rfl rfl rfl gL_isStep_X4_count rfl ⟨rfl, hd_X4_count⟩ ⟨⟨Nat.le_of_ble_eq_true rfl, Nat.le_of_ble_eq_true rfl⟩, Nat.le_of_ble_eq_true rfl, Nat.le_of_ble_eq_true rfl⟩ rfl (Nat.le_of_ble_eq_true rfl) rfl dL_isStep_338 (pBs (n := 4) [obW G a1 h1 q1 j1, obW G a2 h2 q2 j2, slB G q1, slB G q2] [0, 2] [1, 3] rfl (by decide)) (kc' := 0) (ks' := 0) rfl rfl (rxI (ws' := fun (g_338 : OJ) => (bl [obW G a1 h1 q1 g_338, obW G a2 h2 q2 j2, slB G q1, slB G q2])) (fun g_338 => (pBs (n := 4) [obW G a1 h1 q1 g_338, obW G a2 h2 q2 j2, slB G q1, slB G q2] [0, 2] [1, 3] rfl (by decide)).symm) (fun g_338 hf_338 => ?_))
  refine V.istore (lv' := [some (.ref (a1 0 0)), some (.ref (a2 0 0)), some (.int (x_)), some (.int (y_)), some (.int (z_)), some (.int (nI (p_))), some (.int (nI (bN fr))), some (.int (nI (c))), some (.int (nI (cnN (oX q1) (oL q1) (oN q1) 6))), none, none, none, none, none]) E dL_isStep_341 (Nat.le_of_ble_eq_true rfl) rfl rfl ?_
  refine V.iload_n E dL_isStep_343 rfl rfl ?_
  refine V.sipush (v := nI (4096)) E dL_isStep_344 (by decide) ?_
  refine V.callS E (c_L_up G y_ 4096 (by decide) (by decide)) (bl [obW G a1 h1 q1 g_338, obW G a2 h2 q2 j2, slB G q1, slB G q2]) [] gL_isStep_L_up rfl hd_L_up ⟨⟨Nat.le_of_ble_eq_true rfl, Nat.le_of_ble_eq_true rfl⟩, Nat.le_of_ble_eq_true rfl, Nat.le_of_ble_eq_true rfl⟩ rfl (Nat.le_of_ble_eq_true rfl) rfl dL_isStep_347 (List.Perm.refl _) (kc' := 0) (ks' := 0) rfl rfl (rwI (ws' := (bl [obW G a1 h1 q1 g_338, obW G a2 h2 q2 j2, slB G q1, slB G q2])) (List.Perm.refl _) ?_)
  refine V.nmN (fun c2 ec2 => ?_)
  have hc2 : c2 < 4096 := by rw [ec2]; exact upv_lt _ (by decide)
  refine V.istore (lv' := [some (.ref (a1 0 0)), some (.ref (a2 0 0)), some (.int (x_)), some (.int (y_)), some (.int (z_)), some (.int (nI (p_))), some (.int (nI (bN fr))), some (.int (nI (c))), some (.int (nI (cnN (oX q1) (oL q1) (oN q1) 6))), some (.int (nI (c2))), none, none, none, none]) E dL_isStep_350 (Nat.le_of_ble_eq_true rfl) rfl rfl ?_
  refine V.aload_n E dL_isStep_352 rfl rfl ?_
  refine V.iload E dL_isStep_353 rfl ?_
  refine V.callV (C := RX4) E (o_screen G a1 h1 q1 g_338 c2 (h.q) (hc2)) (bl [obW G a2 h2 q2 j2, slB G q2]) [] 0 4 rfl rfl rfl gL_isStep_X4_screen rfl ⟨rfl, hd_X4_screen⟩ ⟨⟨Nat.le_of_ble_eq_true rfl, Nat.le_of_ble_eq_true rfl⟩, Nat.le_of_ble_eq_true rfl, Nat.le_of_ble_eq_true rfl⟩ rfl (Nat.le_of_ble_eq_true rfl) rfl dL_isStep_355 (pBs (n := 4) [obW G a1 h1 q1 g_338, obW G a2 h2 q2 j2, slB G q1, slB G q2] [0, 2] [1, 3] rfl (by decide)) (kc' := 0) (ks' := 0) rfl rfl (rxI (ws' := fun (g_355 : OJ) => (bl [obW G a1 h1 (qC q1 (scS (oX q1), scF (oX q1), scB (oX q1), scG (oX q1), c2)) g_355, obW G a2 h2 q2 j2, slB G (qC q1 (scS (oX q1), scF (oX q1), scB (oX q1), scG (oX q1), c2)), slB G q2])) (fun g_355 => (pBs (n := 4) [obW G a1 h1 (qC q1 (scS (oX q1), scF (oX q1), scB (oX q1), scG (oX q1), c2)) g_355, obW G a2 h2 q2 j2, slB G (qC q1 (scS (oX q1), scF (oX q1), scB (oX q1), scG (oX q1), c2)), slB G q2] [0, 2] [1, 3] rfl (by decide)).symm) (fun g_355 hf_355 => ?_))
  refine V.iload E dL_isStep_358 rfl ?_
  refine V.icmp_ne (tgt := 389) E dL_isStep_360 (by decide) (fun q_360 => ?_) (fun q_360 => ?_)
  · exact absurd rfl q_360
  · refine V.aload_n E dL_isStep_363 rfl rfl ?_
    refine V.iload E dL_isStep_364 rfl ?_
    refine V.callV (C := RX4) E (o_screen G a2 h2 q2 j2 c2 (h.r) (hc2)) (bl [obW G a1 h1 (qC q1 (scS (oX q1), scF (oX q1), scB (oX q1), scG (oX q1), c2)) g_355, slB G (qC q1 (scS (oX q1), scF (oX q1), scB (oX q1), scG (oX q1), c2))]) [] 66 4 rfl rfl rfl gL_isStep_X4_screen rfl ⟨rfl, hd_X4_screen⟩ ⟨⟨Nat.le_of_ble_eq_true rfl, Nat.le_of_ble_eq_true rfl⟩, Nat.le_of_ble_eq_true rfl, Nat.le_of_ble_eq_true rfl⟩ rfl (Nat.le_of_ble_eq_true rfl) rfl dL_isStep_366 (pBs (n := 4) [obW G a1 h1 (qC q1 (scS (oX q1), scF (oX q1), scB (oX q1), scG (oX q1), c2)) g_355, obW G a2 h2 q2 j2, slB G (qC q1 (scS (oX q1), scF (oX q1), scB (oX q1), scG (oX q1), c2)), slB G q2] [1, 3] [0, 2] rfl (by decide)) (kc' := 0) (ks' := 0) rfl rfl (rxI (ws' := fun (g_366 : OJ) => (bl [obW G a1 h1 (qC q1 (scS (oX q1), scF (oX q1), scB (oX q1), scG (oX q1), c2)) g_355, obW G a2 h2 (qC q2 (scS (oX q2), scF (oX q2), scB (oX q2), scG (oX q2), c2)) g_366, slB G (qC q1 (scS (oX q1), scF (oX q1), scB (oX q1), scG (oX q1), c2)), slB G (qC q2 (scS (oX q2), scF (oX q2), scB (oX q2), scG (oX q2), c2))])) (fun g_366 => (pBs (n := 4) [obW G a1 h1 (qC q1 (scS (oX q1), scF (oX q1), scB (oX q1), scG (oX q1), c2)) g_355, obW G a2 h2 (qC q2 (scS (oX q2), scF (oX q2), scB (oX q2), scG (oX q2), c2)) g_366, slB G (qC q1 (scS (oX q1), scF (oX q1), scB (oX q1), scG (oX q1), c2)), slB G (qC q2 (scS (oX q2), scF (oX q2), scB (oX q2), scG (oX q2), c2))] [1, 3] [0, 2] rfl (by decide)).symm) (fun g_366 hf_366 => ?_))
    refine V.iload E dL_isStep_369 rfl ?_
    refine V.icmp_ne (tgt := 389) E dL_isStep_371 (by decide) (fun q_371 => ?_) (fun q_371 => ?_)
    · exact absurd (congrArg nI (congrArg scC h.x)) q_371
    · refine V.aload_n E dL_isStep_374 rfl rfl ?_
      refine V.bipush (v := nI (6)) E dL_isStep_375 (by decide) ?_
      refine V.callV (C := RX4) E (o_count G a1 h1 (qC q1 (scS (oX q1), scF (oX q1), scB (oX q1), scG (oX q1), c2)) g_355 6 ((h.screen hc2).q) (by decide)) (bl [obW G a2 h2 (qC q2 (scS (oX q2), scF (oX q2), scB (oX q2), scG (oX q2), c2)) g_366, slB G (qC q2 (scS (oX q2), scF (oX q2), scB (oX q2), scG (oX q2), c2))]) [] 0 4 rfl rfl rfl gL_isStep_X4_count rfl ⟨rfl, hd_X4_count⟩ ⟨⟨Nat.le_of_ble_eq_true rfl, Nat.le_of_ble_eq_true rfl⟩, Nat.le_of_ble_eq_true rfl, Nat.le_of_ble_eq_true rfl⟩ rfl (Nat.le_of_ble_eq_true rfl) rfl dL_isStep_377 (pBs (n := 4) [obW G a1 h1 (qC q1 (scS (oX q1), scF (oX q1), scB (oX q1), scG (oX q1), c2)) g_355, obW G a2 h2 (qC q2 (scS (oX q2), scF (oX q2), scB (oX q2), scG (oX q2), c2)) g_366, slB G (qC q1 (scS (oX q1), scF (oX q1), scB (oX q1), scG (oX q1), c2)), slB G (qC q2 (scS (oX q2), scF (oX q2), scB (oX q2), scG (oX q2), c2))] [0, 2] [1, 3] rfl (by decide)) (kc' := 0) (ks' := 0) rfl rfl (rxI (ws' := fun (g_377 : OJ) => (bl [obW G a1 h1 (qC q1 (scS (oX q1), scF (oX q1), scB (oX q1), scG (oX q1), c2)) g_377, obW G a2 h2 (qC q2 (scS (oX q2), scF (oX q2), scB (oX q2), scG (oX q2), c2)) g_366, slB G (qC q1 (scS (oX q1), scF (oX q1), scB (oX q1), scG (oX q1), c2)), slB G (qC q2 (scS (oX q2), scF (oX q2), scB (oX q2), scG (oX q2), c2))])) (fun g_377 => (pBs (n := 4) [obW G a1 h1 (qC q1 (scS (oX q1), scF (oX q1), scB (oX q1), scG (oX q1), c2)) g_377, obW G a2 h2 (qC q2 (scS (oX q2), scF (oX q2), scB (oX q2), scG (oX q2), c2)) g_366, slB G (qC q1 (scS (oX q1), scF (oX q1), scB (oX q1), scG (oX q1), c2)), slB G (qC q2 (scS (oX q2), scF (oX q2), scB (oX q2), scG (oX q2), c2))] [0, 2] [1, 3] rfl (by decide)).symm) (fun g_377 hf_377 => ?_))
      refine V.iload E dL_isStep_380 rfl ?_
      refine V.icmp_ne (tgt := 389) E dL_isStep_382 (by decide) (fun q_382 => ?_) (fun q_382 => ?_)
      · exact absurd rfl q_382
      · refine V.iconst (v := nI (1)) E dL_isStep_385 (by decide) ?_
        refine V.goto (tgt := 390) E dL_isStep_386 (by decide) ?_
        refine V.widen (k := 10) (n := 310) (Nat.le_of_ble_eq_true rfl) (Nat.le_of_ble_eq_true rfl) ?_
        exact hend _ _ _ _ dL_isStep_390 (nrB true) ⟨(qC q1 (scS (oX q1), scF (oX q1), scB (oX q1), scG (oX q1), c2), g_377, qC q2 (scS (oX q2), scF (oX q2), scB (oX q2), scG (oX q2), c2), g_366), rfl, rfl, h.screen hc2⟩
set_option maxRecDepth 100000 in
set_option maxHeartbeats 8000000 in
theorem st_391_t {G : VC} {A : Nat → Prop} {X : VX} (E : Ev G A X cL_isStep RL wsL_isStep 14) {a1 h1 a2 h2 : AD} (hend : HES G A X a1 h1 a2 h2) {q1 q2 : OQ} (j1 j2 : OJ) (h : Rel q1 q2) (x_ y_ z_ : Int32) {p_ : Nat} (hp : p_ < 48) {c : Nat} (hc : c < 4096) : V G A X rm_o_isStep (bl [obW G a1 h1 q1 j1, obW G a2 h2 q2 j2, slB G q1, slB G q2]) 0 0 391 [some (.ref (a1 0 0)), some (.ref (a2 0 0)), some (.int (x_)), some (.int (y_)), some (.int (z_)), some (.int (nI (p_))), some (.int (nI (bN true))), some (.int (nI (c))), none, none, none, none, none, none] [] := by
  refine V.iload_n E dL_isStep_391 rfl rfl ?_
  refine V.bipush (v := nI (7)) E dL_isStep_392 (by decide) ?_
  refine V.ishr E dL_isStep_394 ?_
  refine V.bipush (v := nI (48)) E dL_isStep_395 (by decide) ?_
  refine V.callS E (c_L_up G ((y_) >>> ((nI (7)) &&& 31)) 48 (by decide) (by decide)) (bl [obW G a1 h1 q1 j1, obW G a2 h2 q2 j2, slB G q1, slB G q2]) [] gL_isStep_L_up rfl hd_L_up ⟨⟨Nat.le_of_ble_eq_true rfl, Nat.le_of_ble_eq_true rfl⟩, Nat.le_of_ble_eq_true rfl, Nat.le_of_ble_eq_true rfl⟩ rfl (Nat.le_of_ble_eq_true rfl) rfl dL_isStep_397 (List.Perm.refl _) (kc' := 0) (ks' := 0) rfl rfl (rwI (ws' := (bl [obW G a1 h1 q1 j1, obW G a2 h2 q2 j2, slB G q1, slB G q2])) (List.Perm.refl _) ?_)
  refine V.nmN (fun r_ er_ => ?_)
  have hr_ : r_ < 48 := by rw [er_]; exact upv_lt _ (by decide)
  refine V.istore (lv' := [some (.ref (a1 0 0)), some (.ref (a2 0 0)), some (.int (x_)), some (.int (y_)), some (.int (z_)), some (.int (nI (p_))), some (.int (nI (bN true))), some (.int (nI (c))), some (.int (nI (r_))), none, none, none, none, none]) E dL_isStep_400 (Nat.le_of_ble_eq_true rfl) rfl rfl ?_
  have hJ_440 : ∀ (cl : Nat) (hcl : cl = dif (p_ % 8) (r_ % 8)), V G A X rm_o_isStep (bl [obW G a1 h1 q1 j1, obW G a2 h2 q2 j2, slB G q1, slB G q2]) 0 0 440 [some (.ref (a1 0 0)), some (.ref (a2 0 0)), some (.int (x_)), some (.int (y_)), some (.int (z_)), some (.int (nI (p_))), some (.int (nI (bN true))), some (.int (nI (c))), some (.int (nI (r_))), none, none, none, none, none] [.int (nI (cl))] := by
    intro cl hcl
    refine V.istore (lv' := [some (.ref (a1 0 0)), some (.ref (a2 0 0)), some (.int (x_)), some (.int (y_)), some (.int (z_)), some (.int (nI (p_))), some (.int (nI (bN true))), some (.int (nI (c))), some (.int (nI (r_))), some (.int (nI (cl))), none, none, none, none]) E dL_isStep_440 (Nat.le_of_ble_eq_true rfl) rfl rfl ?_
    have hJ_480 : ∀ (rw : Nat) (hrw : rw = dif (p_ / 8) (r_ / 8)), V G A X rm_o_isStep (bl [obW G a1 h1 q1 j1, obW G a2 h2 q2 j2, slB G q1, slB G q2]) 0 0 480 [some (.ref (a1 0 0)), some (.ref (a2 0 0)), some (.int (x_)), some (.int (y_)), some (.int (z_)), some (.int (nI (p_))), some (.int (nI (bN true))), some (.int (nI (c))), some (.int (nI (r_))), some (.int (nI (cl))), none, none, none, none] [.int (nI (rw))] := by
      intro rw hrw
      refine V.istore (lv' := [some (.ref (a1 0 0)), some (.ref (a2 0 0)), some (.int (x_)), some (.int (y_)), some (.int (z_)), some (.int (nI (p_))), some (.int (nI (bN true))), some (.int (nI (c))), some (.int (nI (r_))), some (.int (nI (cl))), some (.int (nI (rw))), none, none, none]) E dL_isStep_480 (Nat.le_of_ble_eq_true rfl) rfl rfl ?_
      refine V.aload_n E dL_isStep_482 rfl rfl ?_
      refine V.iload E dL_isStep_483 rfl ?_
      refine V.iload E dL_isStep_485 rfl ?_
      refine V.iload E dL_isStep_487 rfl ?_
      refine V.iload E dL_isStep_489 rfl ?_
      refine V.callV (C := RX4) E (o_fill G a1 h1 q1 j1 true p_ r_ c (h.q) (hp) (hr_) (hc)) (bl [obW G a2 h2 q2 j2, slB G q2]) [] 0 4 rfl rfl rfl gL_isStep_X4_fill rfl ⟨rfl, hd_X4_fill⟩ ⟨⟨Nat.le_of_ble_eq_true rfl, Nat.le_of_ble_eq_true rfl⟩, Nat.le_of_ble_eq_true rfl, Nat.le_of_ble_eq_true rfl⟩ rfl (Nat.le_of_ble_eq_true rfl) rfl dL_isStep_491 (pBs (n := 4) [obW G a1 h1 q1 j1, obW G a2 h2 q2 j2, slB G q1, slB G q2] [0, 2] [1, 3] rfl (by decide)) (kc' := 0) (ks' := 0) rfl rfl (rxI (ws' := fun (g_491 : OJ) => (bl [obW G a1 h1 (qC q1 (pnt true (oX q1) (filR p_ r_ c (pic true (oX q1))))) g_491, obW G a2 h2 q2 j2, slB G (qC q1 (pnt true (oX q1) (filR p_ r_ c (pic true (oX q1))))), slB G q2])) (fun g_491 => (pBs (n := 4) [obW G a1 h1 (qC q1 (pnt true (oX q1) (filR p_ r_ c (pic true (oX q1))))) g_491, obW G a2 h2 q2 j2, slB G (qC q1 (pnt true (oX q1) (filR p_ r_ c (pic true (oX q1))))), slB G q2] [0, 2] [1, 3] rfl (by decide)).symm) (fun g_491 hf_491 => ?_))
      refine V.istore (lv' := [some (.ref (a1 0 0)), some (.ref (a2 0 0)), some (.int (x_)), some (.int (y_)), some (.int (z_)), some (.int (nI (p_))), some (.int (nI (bN true))), some (.int (nI (c))), some (.int (nI (r_))), some (.int (nI (cl))), some (.int (nI (rw))), some (.int (nI (sumN 48 (fun j1 => bN (inR p_ r_ j1))))), none, none]) E dL_isStep_494 (Nat.le_of_ble_eq_true rfl) rfl rfl ?_
      refine V.iload E dL_isStep_496 rfl ?_
      refine V.aload_n E dL_isStep_498 rfl rfl ?_
      refine V.iload E dL_isStep_499 rfl ?_
      refine V.iload E dL_isStep_501 rfl ?_
      refine V.callS E (c_L_there G r_ (hr_)) (bl [obW G a1 h1 (qC q1 (pnt true (oX q1) (filR p_ r_ c (pic true (oX q1))))) g_491, obW G a2 h2 q2 j2, slB G (qC q1 (pnt true (oX q1) (filR p_ r_ c (pic true (oX q1))))), slB G q2]) [.int (nI (bN true)), .ref (a2 0 0), .int (nI (sumN 48 (fun j1 => bN (inR p_ r_ j1))))] gL_isStep_L_there rfl hd_L_there ⟨⟨Nat.le_of_ble_eq_true rfl, Nat.le_of_ble_eq_true rfl⟩, Nat.le_of_ble_eq_true rfl, Nat.le_of_ble_eq_true rfl⟩ rfl (Nat.le_of_ble_eq_true rfl) rfl dL_isStep_503 (List.Perm.refl _) (kc' := 0) (ks' := 0) rfl rfl (rwI (ws' := (bl [obW G a1 h1 (qC q1 (pnt true (oX q1) (filR p_ r_ c (pic true (oX q1))))) g_491, obW G a2 h2 q2 j2, slB G (qC q1 (pnt true (oX q1) (filR p_ r_ c (pic true (oX q1))))), slB G q2])) (List.Perm.refl _) ?_)
      refine V.iload E dL_isStep_506 rfl ?_
      refine V.callS E (c_L_there G p_ (hp)) (bl [obW G a1 h1 (qC q1 (pnt true (oX q1) (filR p_ r_ c (pic true (oX q1))))) g_491, obW G a2 h2 q2 j2, slB G (qC q1 (pnt true (oX q1) (filR p_ r_ c (pic true (oX q1))))), slB G q2]) [.int (nI (mP r_)), .int (nI (bN true)), .ref (a2 0 0), .int (nI (sumN 48 (fun j1 => bN (inR p_ r_ j1))))] gL_isStep_L_there rfl hd_L_there ⟨⟨Nat.le_of_ble_eq_true rfl, Nat.le_of_ble_eq_true rfl⟩, Nat.le_of_ble_eq_true rfl, Nat.le_of_ble_eq_true rfl⟩ rfl (Nat.le_of_ble_eq_true rfl) rfl dL_isStep_508 (List.Perm.refl _) (kc' := 0) (ks' := 0) rfl rfl (rwI (ws' := (bl [obW G a1 h1 (qC q1 (pnt true (oX q1) (filR p_ r_ c (pic true (oX q1))))) g_491, obW G a2 h2 q2 j2, slB G (qC q1 (pnt true (oX q1) (filR p_ r_ c (pic true (oX q1))))), slB G q2])) (List.Perm.refl _) ?_)
      refine V.iload E dL_isStep_511 rfl ?_
      refine V.callV (C := RX4) E (o_fill G a2 h2 q2 j2 true (mP r_) (mP p_) c (h.r) (mP_lt hr_) (mP_lt hp) (hc)) (bl [obW G a1 h1 (qC q1 (pnt true (oX q1) (filR p_ r_ c (pic true (oX q1))))) g_491, slB G (qC q1 (pnt true (oX q1) (filR p_ r_ c (pic true (oX q1)))))]) [.int (nI (sumN 48 (fun j1 => bN (inR p_ r_ j1))))] 66 4 rfl rfl rfl gL_isStep_X4_fill rfl ⟨rfl, hd_X4_fill⟩ ⟨⟨Nat.le_of_ble_eq_true rfl, Nat.le_of_ble_eq_true rfl⟩, Nat.le_of_ble_eq_true rfl, Nat.le_of_ble_eq_true rfl⟩ rfl (Nat.le_of_ble_eq_true rfl) rfl dL_isStep_513 (pBs (n := 4) [obW G a1 h1 (qC q1 (pnt true (oX q1) (filR p_ r_ c (pic true (oX q1))))) g_491, obW G a2 h2 q2 j2, slB G (qC q1 (pnt true (oX q1) (filR p_ r_ c (pic true (oX q1))))), slB G q2] [1, 3] [0, 2] rfl (by decide)) (kc' := 0) (ks' := 0) rfl rfl (rxI (ws' := fun (g_513 : OJ) => (bl [obW G a1 h1 (qC q1 (pnt true (oX q1) (filR p_ r_ c (pic true (oX q1))))) g_491, obW G a2 h2 (qC q2 (pnt true (oX q2) (filR (mP r_) (mP p_) c (pic true (oX q2))))) g_513, slB G (qC q1 (pnt true (oX q1) (filR p_ r_ c (pic true (oX q1))))), slB G (qC q2 (pnt true (oX q2) (filR (mP r_) (mP p_) c (pic true (oX q2)))))])) (fun g_513 => (pBs (n := 4) [obW G a1 h1 (qC q1 (pnt true (oX q1) (filR p_ r_ c (pic true (oX q1))))) g_491, obW G a2 h2 (qC q2 (pnt true (oX q2) (filR (mP r_) (mP p_) c (pic true (oX q2))))) g_513, slB G (qC q1 (pnt true (oX q1) (filR p_ r_ c (pic true (oX q1))))), slB G (qC q2 (pnt true (oX q2) (filR (mP r_) (mP p_) c (pic true (oX q2)))))] [1, 3] [0, 2] rfl (by decide)).symm) (fun g_513 hf_513 => ?_))
      refine V.icmp_ne (tgt := 579) E dL_isStep_516 (by decide) (fun q_516 => ?_) (fun q_516 => ?_)
      · exact absurd (congrArg nI (inR_sum_m p_ r_)).symm q_516
      · refine V.iload E dL_isStep_519 rfl ?_
        refine V.iload E dL_isStep_521 rfl ?_
        refine V.iconst (v := nI (1)) E dL_isStep_523 (by decide) ?_
        refine V.iaddN E  dL_isStep_524 ?_
        refine V.iload E dL_isStep_525 rfl ?_
        refine V.iconst (v := nI (1)) E dL_isStep_527 (by decide) ?_
        refine V.iaddN E  dL_isStep_528 ?_
        refine V.imulN E  dL_isStep_529 ?_
        refine V.icmp_ne (tgt := 579) E dL_isStep_530 (by decide) (fun q_530 => ?_) (fun q_530 => ?_)
        · exact absurd (congrArg nI (by rw [hcl, hrw]; exact inR_sum p_ hp r_ hr_)) q_530
        · refine V.aload_n E dL_isStep_533 rfl rfl ?_
          refine V.iload E dL_isStep_534 rfl ?_
          refine V.iload E dL_isStep_536 rfl ?_
          refine V.if_eqB (tgt := 545) E dL_isStep_538 (by decide) (fun q_538 => ?_) (fun q_538 => ?_)
          · exact absurd q_538 (by decide)
          · refine V.iconst (v := nI (0)) E dL_isStep_541 (by decide) ?_
            refine V.goto (tgt := 546) E dL_isStep_542 (by decide) ?_
            refine V.callV (C := RX4) E (o_pixel G a1 h1 (qC q1 (pnt true (oX q1) (filR p_ r_ c (pic true (oX q1))))) g_491 p_ 0 ((h.fill true hc).q) (hp) (by decide)) (bl [obW G a2 h2 (qC q2 (pnt true (oX q2) (filR (mP r_) (mP p_) c (pic true (oX q2))))) g_513, slB G (qC q2 (pnt true (oX q2) (filR (mP r_) (mP p_) c (pic true (oX q2)))))]) [] 0 4 rfl rfl rfl gL_isStep_X4_pixel rfl ⟨rfl, hd_X4_pixel⟩ ⟨⟨Nat.le_of_ble_eq_true rfl, Nat.le_of_ble_eq_true rfl⟩, Nat.le_of_ble_eq_true rfl, Nat.le_of_ble_eq_true rfl⟩ rfl (Nat.le_of_ble_eq_true rfl) rfl dL_isStep_546 (pBs (n := 4) [obW G a1 h1 (qC q1 (pnt true (oX q1) (filR p_ r_ c (pic true (oX q1))))) g_491, obW G a2 h2 (qC q2 (pnt true (oX q2) (filR (mP r_) (mP p_) c (pic true (oX q2))))) g_513, slB G (qC q1 (pnt true (oX q1) (filR p_ r_ c (pic true (oX q1))))), slB G (qC q2 (pnt true (oX q2) (filR (mP r_) (mP p_) c (pic true (oX q2)))))] [0, 2] [1, 3] rfl (by decide)) (kc' := 0) (ks' := 0) rfl rfl (rxI (ws' := fun (g_546 : OJ) => (bl [obW G a1 h1 (qC q1 (pnt true (oX q1) (filR p_ r_ c (pic true (oX q1))))) g_546, obW G a2 h2 (qC q2 (pnt true (oX q2) (filR (mP r_) (mP p_) c (pic true (oX q2))))) g_513, slB G (qC q1 (pnt true (oX q1) (filR p_ r_ c (pic true (oX q1))))), slB G (qC q2 (pnt true (oX q2) (filR (mP r_) (mP p_) c (pic true (oX q2)))))])) (fun g_546 => (pBs (n := 4) [obW G a1 h1 (qC q1 (pnt true (oX q1) (filR p_ r_ c (pic true (oX q1))))) g_546, obW G a2 h2 (qC q2 (pnt true (oX q2) (filR (mP r_) (mP p_) c (pic true (oX q2))))) g_513, slB G (qC q1 (pnt true (oX q1) (filR p_ r_ c (pic true (oX q1))))), slB G (qC q2 (pnt true (oX q2) (filR (mP r_) (mP p_) c (pic true (oX q2)))))] [0, 2] [1, 3] rfl (by decide)).symm) (fun g_546 hf_546 => ?_))
            refine V.iload E dL_isStep_549 rfl ?_
            refine V.icmp_ne (tgt := 579) E dL_isStep_551 (by decide) (fun q_551 => ?_) (fun q_551 => ?_)
            · exact absurd (congrArg nI (show filR p_ r_ c (scF (oX q1)) p_ = c from if_pos (inR_l p_ r_))) q_551
            · refine V.aload_n E dL_isStep_554 rfl rfl ?_
              refine V.iload E dL_isStep_555 rfl ?_
              refine V.iload E dL_isStep_557 rfl ?_
              refine V.if_eqB (tgt := 566) E dL_isStep_559 (by decide) (fun q_559 => ?_) (fun q_559 => ?_)
              · exact absurd q_559 (by decide)
              · refine V.iconst (v := nI (0)) E dL_isStep_562 (by decide) ?_
                refine V.goto (tgt := 567) E dL_isStep_563 (by decide) ?_
                refine V.callV (C := RX4) E (o_pixel G a1 h1 (qC q1 (pnt true (oX q1) (filR p_ r_ c (pic true (oX q1))))) g_546 r_ 0 ((h.fill true hc).q) (hr_) (by decide)) (bl [obW G a2 h2 (qC q2 (pnt true (oX q2) (filR (mP r_) (mP p_) c (pic true (oX q2))))) g_513, slB G (qC q2 (pnt true (oX q2) (filR (mP r_) (mP p_) c (pic true (oX q2)))))]) [] 0 4 rfl rfl rfl gL_isStep_X4_pixel rfl ⟨rfl, hd_X4_pixel⟩ ⟨⟨Nat.le_of_ble_eq_true rfl, Nat.le_of_ble_eq_true rfl⟩, Nat.le_of_ble_eq_true rfl, Nat.le_of_ble_eq_true rfl⟩ rfl (Nat.le_of_ble_eq_true rfl) rfl dL_isStep_567 (pBs (n := 4) [obW G a1 h1 (qC q1 (pnt true (oX q1) (filR p_ r_ c (pic true (oX q1))))) g_546, obW G a2 h2 (qC q2 (pnt true (oX q2) (filR (mP r_) (mP p_) c (pic true (oX q2))))) g_513, slB G (qC q1 (pnt true (oX q1) (filR p_ r_ c (pic true (oX q1))))), slB G (qC q2 (pnt true (oX q2) (filR (mP r_) (mP p_) c (pic true (oX q2)))))] [0, 2] [1, 3] rfl (by decide)) (kc' := 0) (ks' := 0) rfl rfl (rxI (ws' := fun (g_567 : OJ) => (bl [obW G a1 h1 (qC q1 (pnt true (oX q1) (filR p_ r_ c (pic true (oX q1))))) g_567, obW G a2 h2 (qC q2 (pnt true (oX q2) (filR (mP r_) (mP p_) c (pic true (oX q2))))) g_513, slB G (qC q1 (pnt true (oX q1) (filR p_ r_ c (pic true (oX q1))))), slB G (qC q2 (pnt true (oX q2) (filR (mP r_) (mP p_) c (pic true (oX q2)))))])) (fun g_567 => (pBs (n := 4) [obW G a1 h1 (qC q1 (pnt true (oX q1) (filR p_ r_ c (pic true (oX q1))))) g_567, obW G a2 h2 (qC q2 (pnt true (oX q2) (filR (mP r_) (mP p_) c (pic true (oX q2))))) g_513, slB G (qC q1 (pnt true (oX q1) (filR p_ r_ c (pic true (oX q1))))), slB G (qC q2 (pnt true (oX q2) (filR (mP r_) (mP p_) c (pic true (oX q2)))))] [0, 2] [1, 3] rfl (by decide)).symm) (fun g_567 hf_567 => ?_))
                refine V.iload E dL_isStep_570 rfl ?_
                refine V.icmp_ne (tgt := 579) E dL_isStep_572 (by decide) (fun q_572 => ?_) (fun q_572 => ?_)
                · exact absurd (congrArg nI (show filR p_ r_ c (scF (oX q1)) r_ = c from if_pos (inR_r p_ r_))) q_572
                · refine V.iconst (v := nI (1)) E dL_isStep_575 (by decide) ?_
                  refine V.goto (tgt := 580) E dL_isStep_576 (by decide) ?_
                  refine V.widen (k := 10) (n := 310) (Nat.le_of_ble_eq_true rfl) (Nat.le_of_ble_eq_true rfl) ?_
                  exact hend _ _ _ _ dL_isStep_580 (nrB true) ⟨(qC q1 (pnt true (oX q1) (filR p_ r_ c (pic true (oX q1)))), g_567, qC q2 (pnt true (oX q2) (filR (mP r_) (mP p_) c (pic true (oX q2)))), g_513), rfl, rfl, h.fill true hc⟩
    refine V.iload E dL_isStep_442 rfl ?_
    refine V.bipush (v := nI (8)) E dL_isStep_444 (by decide) ?_
    refine V.idivN E (by omega) (by omega) (by omega) dL_isStep_446 ?_
    refine V.iload E dL_isStep_447 rfl ?_
    refine V.bipush (v := nI (8)) E dL_isStep_449 (by decide) ?_
    refine V.idivN E (by omega) (by omega) (by omega) dL_isStep_451 ?_
    refine V.icmp_geN (tgt := 469) E (by omega) (by omega) dL_isStep_452 (by decide) (fun q_452 => ?_) (fun q_452 => ?_)
    · refine V.iload E dL_isStep_469 rfl ?_
      refine V.bipush (v := nI (8)) E dL_isStep_471 (by decide) ?_
      refine V.idivN E (by omega) (by omega) (by omega) dL_isStep_473 ?_
      refine V.iload E dL_isStep_474 rfl ?_
      refine V.bipush (v := nI (8)) E dL_isStep_476 (by decide) ?_
      refine V.idivN E (by omega) (by omega) (by omega) dL_isStep_478 ?_
      refine V.isubN E (by omega) dL_isStep_479 ?_
      exact hJ_480 _ (by unfold dif; first | rw [if_pos q_452] | rw [if_neg (by omega)])
    · refine V.iload E dL_isStep_455 rfl ?_
      refine V.bipush (v := nI (8)) E dL_isStep_457 (by decide) ?_
      refine V.idivN E (by omega) (by omega) (by omega) dL_isStep_459 ?_
      refine V.iload E dL_isStep_460 rfl ?_
      refine V.bipush (v := nI (8)) E dL_isStep_462 (by decide) ?_
      refine V.idivN E (by omega) (by omega) (by omega) dL_isStep_464 ?_
      refine V.isubN E (by omega) dL_isStep_465 ?_
      refine V.goto (tgt := 480) E dL_isStep_466 (by decide) ?_
      exact hJ_480 _ (by unfold dif; first | rw [if_pos q_452] | rw [if_neg (by omega)])
  refine V.iload E dL_isStep_402 rfl ?_
  refine V.bipush (v := nI (8)) E dL_isStep_404 (by decide) ?_
  refine V.iremN E (by omega) (by omega) (by omega) dL_isStep_406 ?_
  refine V.iload E dL_isStep_407 rfl ?_
  refine V.bipush (v := nI (8)) E dL_isStep_409 (by decide) ?_
  refine V.iremN E (by omega) (by omega) (by omega) dL_isStep_411 ?_
  refine V.icmp_geN (tgt := 429) E (by omega) (by omega) dL_isStep_412 (by decide) (fun q_412 => ?_) (fun q_412 => ?_)
  · refine V.iload E dL_isStep_429 rfl ?_
    refine V.bipush (v := nI (8)) E dL_isStep_431 (by decide) ?_
    refine V.iremN E (by omega) (by omega) (by omega) dL_isStep_433 ?_
    refine V.iload E dL_isStep_434 rfl ?_
    refine V.bipush (v := nI (8)) E dL_isStep_436 (by decide) ?_
    refine V.iremN E (by omega) (by omega) (by omega) dL_isStep_438 ?_
    refine V.isubN E (by omega) dL_isStep_439 ?_
    exact hJ_440 _ (by unfold dif; first | rw [if_pos q_412] | rw [if_neg (by omega)])
  · refine V.iload E dL_isStep_415 rfl ?_
    refine V.bipush (v := nI (8)) E dL_isStep_417 (by decide) ?_
    refine V.iremN E (by omega) (by omega) (by omega) dL_isStep_419 ?_
    refine V.iload E dL_isStep_420 rfl ?_
    refine V.bipush (v := nI (8)) E dL_isStep_422 (by decide) ?_
    refine V.iremN E (by omega) (by omega) (by omega) dL_isStep_424 ?_
    refine V.isubN E (by omega) dL_isStep_425 ?_
    refine V.goto (tgt := 440) E dL_isStep_426 (by decide) ?_
    exact hJ_440 _ (by unfold dif; first | rw [if_pos q_412] | rw [if_neg (by omega)])
set_option maxRecDepth 100000 in
set_option maxHeartbeats 8000000 in
theorem st_905_t {G : VC} {A : Nat → Prop} {X : VX} (E : Ev G A X cL_isStep RL wsL_isStep 14) {a1 h1 a2 h2 : AD} (hend : HES G A X a1 h1 a2 h2) {q1 q2 : OQ} (j1 j2 : OJ) (h : Rel q1 q2) (x_ y_ z_ : Int32) {p_ : Nat} (hp : p_ < 48) {c : Nat} (hc : c < 4096) : V G A X rm_o_isStep (bl [obW G a1 h1 q1 j1, obW G a2 h2 q2 j2, slB G q1, slB G q2]) 0 0 905 [some (.ref (a1 0 0)), some (.ref (a2 0 0)), some (.int (x_)), some (.int (y_)), some (.int (z_)), some (.int (nI (p_))), some (.int (nI (bN true))), some (.int (nI (c))), none, none, none, none, none, none] [] := by
  refine V.aload_n E dL_isStep_905 rfl rfl ?_
  refine V.iload E dL_isStep_906 rfl ?_
  refine V.iload E dL_isStep_908 rfl ?_
  refine V.if_eqB (tgt := 917) E dL_isStep_910 (by decide) (fun q_910 => ?_) (fun q_910 => ?_)
  · exact absurd q_910 (by decide)
  · refine V.iconst (v := nI (0)) E dL_isStep_913 (by decide) ?_
    refine V.goto (tgt := 918) E dL_isStep_914 (by decide) ?_
    refine V.callV (C := RX4) E (o_pixel G a1 h1 q1 j1 p_ 0 (h.q) (hp) (by decide)) (bl [obW G a2 h2 q2 j2, slB G q2]) [] 0 4 rfl rfl rfl gL_isStep_X4_pixel rfl ⟨rfl, hd_X4_pixel⟩ ⟨⟨Nat.le_of_ble_eq_true rfl, Nat.le_of_ble_eq_true rfl⟩, Nat.le_of_ble_eq_true rfl, Nat.le_of_ble_eq_true rfl⟩ rfl (Nat.le_of_ble_eq_true rfl) rfl dL_isStep_918 (pBs (n := 4) [obW G a1 h1 q1 j1, obW G a2 h2 q2 j2, slB G q1, slB G q2] [0, 2] [1, 3] rfl (by decide)) (kc' := 0) (ks' := 0) rfl rfl (rxI (ws' := fun (g_918 : OJ) => (bl [obW G a1 h1 q1 g_918, obW G a2 h2 q2 j2, slB G q1, slB G q2])) (fun g_918 => (pBs (n := 4) [obW G a1 h1 q1 g_918, obW G a2 h2 q2 j2, slB G q1, slB G q2] [0, 2] [1, 3] rfl (by decide)).symm) (fun g_918 hf_918 => ?_))
    refine V.istore (lv' := [some (.ref (a1 0 0)), some (.ref (a2 0 0)), some (.int (x_)), some (.int (y_)), some (.int (z_)), some (.int (nI (p_))), some (.int (nI (bN true))), some (.int (nI (c))), some (.int (nI (pxN (oX q1) p_ 0))), none, none, none, none, none]) E dL_isStep_921 (Nat.le_of_ble_eq_true rfl) rfl rfl ?_
    refine V.aload_n E dL_isStep_923 rfl rfl ?_
    refine V.iload E dL_isStep_924 rfl ?_
    refine V.iload E dL_isStep_926 rfl ?_
    refine V.iload E dL_isStep_928 rfl ?_
    refine V.callV (C := RX4) E (o_paint G a1 h1 q1 g_918 true p_ c (h.q) (hp) (hc)) (bl [obW G a2 h2 q2 j2, slB G q2]) [] 0 4 rfl rfl rfl gL_isStep_X4_paint rfl ⟨rfl, hd_X4_paint⟩ ⟨⟨Nat.le_of_ble_eq_true rfl, Nat.le_of_ble_eq_true rfl⟩, Nat.le_of_ble_eq_true rfl, Nat.le_of_ble_eq_true rfl⟩ rfl (Nat.le_of_ble_eq_true rfl) rfl dL_isStep_930 (pBs (n := 4) [obW G a1 h1 q1 g_918, obW G a2 h2 q2 j2, slB G q1, slB G q2] [0, 2] [1, 3] rfl (by decide)) (kc' := 0) (ks' := 0) rfl rfl (rxI (ws' := fun (g_930 : OJ) => (bl [obW G a1 h1 (qC q1 (pnt true (oX q1) (upN (pic true (oX q1)) p_ c))) g_930, obW G a2 h2 q2 j2, slB G (qC q1 (pnt true (oX q1) (upN (pic true (oX q1)) p_ c))), slB G q2])) (fun g_930 => (pBs (n := 4) [obW G a1 h1 (qC q1 (pnt true (oX q1) (upN (pic true (oX q1)) p_ c))) g_930, obW G a2 h2 q2 j2, slB G (qC q1 (pnt true (oX q1) (upN (pic true (oX q1)) p_ c))), slB G q2] [0, 2] [1, 3] rfl (by decide)).symm) (fun g_930 hf_930 => ?_))
    refine V.iload E dL_isStep_933 rfl ?_
    refine V.icmp_ne (tgt := 981) E dL_isStep_935 (by decide) (fun q_935 => ?_) (fun q_935 => ?_)
    · exact absurd rfl q_935
    · refine V.aload_n E dL_isStep_938 rfl rfl ?_
      refine V.iload E dL_isStep_939 rfl ?_
      refine V.iload E dL_isStep_941 rfl ?_
      refine V.callS E (c_L_there G p_ (hp)) (bl [obW G a1 h1 (qC q1 (pnt true (oX q1) (upN (pic true (oX q1)) p_ c))) g_930, obW G a2 h2 q2 j2, slB G (qC q1 (pnt true (oX q1) (upN (pic true (oX q1)) p_ c))), slB G q2]) [.int (nI (bN true)), .ref (a2 0 0)] gL_isStep_L_there rfl hd_L_there ⟨⟨Nat.le_of_ble_eq_true rfl, Nat.le_of_ble_eq_true rfl⟩, Nat.le_of_ble_eq_true rfl, Nat.le_of_ble_eq_true rfl⟩ rfl (Nat.le_of_ble_eq_true rfl) rfl dL_isStep_943 (List.Perm.refl _) (kc' := 0) (ks' := 0) rfl rfl (rwI (ws' := (bl [obW G a1 h1 (qC q1 (pnt true (oX q1) (upN (pic true (oX q1)) p_ c))) g_930, obW G a2 h2 q2 j2, slB G (qC q1 (pnt true (oX q1) (upN (pic true (oX q1)) p_ c))), slB G q2])) (List.Perm.refl _) ?_)
      refine V.iload E dL_isStep_946 rfl ?_
      refine V.callV (C := RX4) E (o_paint G a2 h2 q2 j2 true (mP p_) c (h.r) (mP_lt hp) (hc)) (bl [obW G a1 h1 (qC q1 (pnt true (oX q1) (upN (pic true (oX q1)) p_ c))) g_930, slB G (qC q1 (pnt true (oX q1) (upN (pic true (oX q1)) p_ c)))]) [] 66 4 rfl rfl rfl gL_isStep_X4_paint rfl ⟨rfl, hd_X4_paint⟩ ⟨⟨Nat.le_of_ble_eq_true rfl, Nat.le_of_ble_eq_true rfl⟩, Nat.le_of_ble_eq_true rfl, Nat.le_of_ble_eq_true rfl⟩ rfl (Nat.le_of_ble_eq_true rfl) rfl dL_isStep_948 (pBs (n := 4) [obW G a1 h1 (qC q1 (pnt true (oX q1) (upN (pic true (oX q1)) p_ c))) g_930, obW G a2 h2 q2 j2, slB G (qC q1 (pnt true (oX q1) (upN (pic true (oX q1)) p_ c))), slB G q2] [1, 3] [0, 2] rfl (by decide)) (kc' := 0) (ks' := 0) rfl rfl (rxI (ws' := fun (g_948 : OJ) => (bl [obW G a1 h1 (qC q1 (pnt true (oX q1) (upN (pic true (oX q1)) p_ c))) g_930, obW G a2 h2 (qC q2 (pnt true (oX q2) (upN (pic true (oX q2)) (mP p_) c))) g_948, slB G (qC q1 (pnt true (oX q1) (upN (pic true (oX q1)) p_ c))), slB G (qC q2 (pnt true (oX q2) (upN (pic true (oX q2)) (mP p_) c)))])) (fun g_948 => (pBs (n := 4) [obW G a1 h1 (qC q1 (pnt true (oX q1) (upN (pic true (oX q1)) p_ c))) g_930, obW G a2 h2 (qC q2 (pnt true (oX q2) (upN (pic true (oX q2)) (mP p_) c))) g_948, slB G (qC q1 (pnt true (oX q1) (upN (pic true (oX q1)) p_ c))), slB G (qC q2 (pnt true (oX q2) (upN (pic true (oX q2)) (mP p_) c)))] [1, 3] [0, 2] rfl (by decide)).symm) (fun g_948 hf_948 => ?_))
      refine V.iload E dL_isStep_951 rfl ?_
      refine V.icmp_ne (tgt := 981) E dL_isStep_953 (by decide) (fun q_953 => ?_) (fun q_953 => ?_)
      · exact absurd (congrArg nI (h.pik true p_)) q_953
      · refine V.aload_n E dL_isStep_956 rfl rfl ?_
        refine V.iload E dL_isStep_957 rfl ?_
        refine V.iload E dL_isStep_959 rfl ?_
        refine V.if_eqB (tgt := 968) E dL_isStep_961 (by decide) (fun q_961 => ?_) (fun q_961 => ?_)
        · exact absurd q_961 (by decide)
        · refine V.iconst (v := nI (0)) E dL_isStep_964 (by decide) ?_
          refine V.goto (tgt := 969) E dL_isStep_965 (by decide) ?_
          refine V.callV (C := RX4) E (o_pixel G a1 h1 (qC q1 (pnt true (oX q1) (upN (pic true (oX q1)) p_ c))) g_930 p_ 0 ((h.paint true (p := p_) hc).q) (hp) (by decide)) (bl [obW G a2 h2 (qC q2 (pnt true (oX q2) (upN (pic true (oX q2)) (mP p_) c))) g_948, slB G (qC q2 (pnt true (oX q2) (upN (pic true (oX q2)) (mP p_) c)))]) [] 0 4 rfl rfl rfl gL_isStep_X4_pixel rfl ⟨rfl, hd_X4_pixel⟩ ⟨⟨Nat.le_of_ble_eq_true rfl, Nat.le_of_ble_eq_true rfl⟩, Nat.le_of_ble_eq_true rfl, Nat.le_of_ble_eq_true rfl⟩ rfl (Nat.le_of_ble_eq_true rfl) rfl dL_isStep_969 (pBs (n := 4) [obW G a1 h1 (qC q1 (pnt true (oX q1) (upN (pic true (oX q1)) p_ c))) g_930, obW G a2 h2 (qC q2 (pnt true (oX q2) (upN (pic true (oX q2)) (mP p_) c))) g_948, slB G (qC q1 (pnt true (oX q1) (upN (pic true (oX q1)) p_ c))), slB G (qC q2 (pnt true (oX q2) (upN (pic true (oX q2)) (mP p_) c)))] [0, 2] [1, 3] rfl (by decide)) (kc' := 0) (ks' := 0) rfl rfl (rxI (ws' := fun (g_969 : OJ) => (bl [obW G a1 h1 (qC q1 (pnt true (oX q1) (upN (pic true (oX q1)) p_ c))) g_969, obW G a2 h2 (qC q2 (pnt true (oX q2) (upN (pic true (oX q2)) (mP p_) c))) g_948, slB G (qC q1 (pnt true (oX q1) (upN (pic true (oX q1)) p_ c))), slB G (qC q2 (pnt true (oX q2) (upN (pic true (oX q2)) (mP p_) c)))])) (fun g_969 => (pBs (n := 4) [obW G a1 h1 (qC q1 (pnt true (oX q1) (upN (pic true (oX q1)) p_ c))) g_969, obW G a2 h2 (qC q2 (pnt true (oX q2) (upN (pic true (oX q2)) (mP p_) c))) g_948, slB G (qC q1 (pnt true (oX q1) (upN (pic true (oX q1)) p_ c))), slB G (qC q2 (pnt true (oX q2) (upN (pic true (oX q2)) (mP p_) c)))] [0, 2] [1, 3] rfl (by decide)).symm) (fun g_969 hf_969 => ?_))
          refine V.iload E dL_isStep_972 rfl ?_
          refine V.icmp_ne (tgt := 981) E dL_isStep_974 (by decide) (fun q_974 => ?_) (fun q_974 => ?_)
          · exact absurd (congrArg nI (show upN (scF (oX q1)) p_ c p_ = c from upN_s)) q_974
          · refine V.iconst (v := nI (1)) E dL_isStep_977 (by decide) ?_
            refine V.goto (tgt := 982) E dL_isStep_978 (by decide) ?_
            refine V.widen (k := 10) (n := 310) (Nat.le_of_ble_eq_true rfl) (Nat.le_of_ble_eq_true rfl) ?_
            exact hend _ _ _ _ dL_isStep_982 (nrB true) ⟨(qC q1 (pnt true (oX q1) (upN (pic true (oX q1)) p_ c)), g_969, qC q2 (pnt true (oX q2) (upN (pic true (oX q2)) (mP p_) c)), g_948), rfl, rfl, h.paint true hc⟩
set_option maxRecDepth 100000 in
set_option maxHeartbeats 8000000 in
theorem st_391_f {G : VC} {A : Nat → Prop} {X : VX} (E : Ev G A X cL_isStep RL wsL_isStep 14) {a1 h1 a2 h2 : AD} (hend : HES G A X a1 h1 a2 h2) {q1 q2 : OQ} (j1 j2 : OJ) (h : Rel q1 q2) (x_ y_ z_ : Int32) {p_ : Nat} (hp : p_ < 48) {c : Nat} (hc : c < 4096) : V G A X rm_o_isStep (bl [obW G a1 h1 q1 j1, obW G a2 h2 q2 j2, slB G q1, slB G q2]) 0 0 391 [some (.ref (a1 0 0)), some (.ref (a2 0 0)), some (.int (x_)), some (.int (y_)), some (.int (z_)), some (.int (nI (p_))), some (.int (nI (bN false))), some (.int (nI (c))), none, none, none, none, none, none] [] := by
  refine V.iload_n E dL_isStep_391 rfl rfl ?_
  refine V.bipush (v := nI (7)) E dL_isStep_392 (by decide) ?_
  refine V.ishr E dL_isStep_394 ?_
  refine V.bipush (v := nI (48)) E dL_isStep_395 (by decide) ?_
  refine V.callS E (c_L_up G ((y_) >>> ((nI (7)) &&& 31)) 48 (by decide) (by decide)) (bl [obW G a1 h1 q1 j1, obW G a2 h2 q2 j2, slB G q1, slB G q2]) [] gL_isStep_L_up rfl hd_L_up ⟨⟨Nat.le_of_ble_eq_true rfl, Nat.le_of_ble_eq_true rfl⟩, Nat.le_of_ble_eq_true rfl, Nat.le_of_ble_eq_true rfl⟩ rfl (Nat.le_of_ble_eq_true rfl) rfl dL_isStep_397 (List.Perm.refl _) (kc' := 0) (ks' := 0) rfl rfl (rwI (ws' := (bl [obW G a1 h1 q1 j1, obW G a2 h2 q2 j2, slB G q1, slB G q2])) (List.Perm.refl _) ?_)
  refine V.nmN (fun r_ er_ => ?_)
  have hr_ : r_ < 48 := by rw [er_]; exact upv_lt _ (by decide)
  refine V.istore (lv' := [some (.ref (a1 0 0)), some (.ref (a2 0 0)), some (.int (x_)), some (.int (y_)), some (.int (z_)), some (.int (nI (p_))), some (.int (nI (bN false))), some (.int (nI (c))), some (.int (nI (r_))), none, none, none, none, none]) E dL_isStep_400 (Nat.le_of_ble_eq_true rfl) rfl rfl ?_
  have hJ_440 : ∀ (cl : Nat) (hcl : cl = dif (p_ % 8) (r_ % 8)), V G A X rm_o_isStep (bl [obW G a1 h1 q1 j1, obW G a2 h2 q2 j2, slB G q1, slB G q2]) 0 0 440 [some (.ref (a1 0 0)), some (.ref (a2 0 0)), some (.int (x_)), some (.int (y_)), some (.int (z_)), some (.int (nI (p_))), some (.int (nI (bN false))), some (.int (nI (c))), some (.int (nI (r_))), none, none, none, none, none] [.int (nI (cl))] := by
    intro cl hcl
    refine V.istore (lv' := [some (.ref (a1 0 0)), some (.ref (a2 0 0)), some (.int (x_)), some (.int (y_)), some (.int (z_)), some (.int (nI (p_))), some (.int (nI (bN false))), some (.int (nI (c))), some (.int (nI (r_))), some (.int (nI (cl))), none, none, none, none]) E dL_isStep_440 (Nat.le_of_ble_eq_true rfl) rfl rfl ?_
    have hJ_480 : ∀ (rw : Nat) (hrw : rw = dif (p_ / 8) (r_ / 8)), V G A X rm_o_isStep (bl [obW G a1 h1 q1 j1, obW G a2 h2 q2 j2, slB G q1, slB G q2]) 0 0 480 [some (.ref (a1 0 0)), some (.ref (a2 0 0)), some (.int (x_)), some (.int (y_)), some (.int (z_)), some (.int (nI (p_))), some (.int (nI (bN false))), some (.int (nI (c))), some (.int (nI (r_))), some (.int (nI (cl))), none, none, none, none] [.int (nI (rw))] := by
      intro rw hrw
      refine V.istore (lv' := [some (.ref (a1 0 0)), some (.ref (a2 0 0)), some (.int (x_)), some (.int (y_)), some (.int (z_)), some (.int (nI (p_))), some (.int (nI (bN false))), some (.int (nI (c))), some (.int (nI (r_))), some (.int (nI (cl))), some (.int (nI (rw))), none, none, none]) E dL_isStep_480 (Nat.le_of_ble_eq_true rfl) rfl rfl ?_
      refine V.aload_n E dL_isStep_482 rfl rfl ?_
      refine V.iload E dL_isStep_483 rfl ?_
      refine V.iload E dL_isStep_485 rfl ?_
      refine V.iload E dL_isStep_487 rfl ?_
      refine V.iload E dL_isStep_489 rfl ?_
      refine V.callV (C := RX4) E (o_fill G a1 h1 q1 j1 false p_ r_ c (h.q) (hp) (hr_) (hc)) (bl [obW G a2 h2 q2 j2, slB G q2]) [] 0 4 rfl rfl rfl gL_isStep_X4_fill rfl ⟨rfl, hd_X4_fill⟩ ⟨⟨Nat.le_of_ble_eq_true rfl, Nat.le_of_ble_eq_true rfl⟩, Nat.le_of_ble_eq_true rfl, Nat.le_of_ble_eq_true rfl⟩ rfl (Nat.le_of_ble_eq_true rfl) rfl dL_isStep_491 (pBs (n := 4) [obW G a1 h1 q1 j1, obW G a2 h2 q2 j2, slB G q1, slB G q2] [0, 2] [1, 3] rfl (by decide)) (kc' := 0) (ks' := 0) rfl rfl (rxI (ws' := fun (g_491 : OJ) => (bl [obW G a1 h1 (qC q1 (pnt false (oX q1) (filR p_ r_ c (pic false (oX q1))))) g_491, obW G a2 h2 q2 j2, slB G (qC q1 (pnt false (oX q1) (filR p_ r_ c (pic false (oX q1))))), slB G q2])) (fun g_491 => (pBs (n := 4) [obW G a1 h1 (qC q1 (pnt false (oX q1) (filR p_ r_ c (pic false (oX q1))))) g_491, obW G a2 h2 q2 j2, slB G (qC q1 (pnt false (oX q1) (filR p_ r_ c (pic false (oX q1))))), slB G q2] [0, 2] [1, 3] rfl (by decide)).symm) (fun g_491 hf_491 => ?_))
      refine V.istore (lv' := [some (.ref (a1 0 0)), some (.ref (a2 0 0)), some (.int (x_)), some (.int (y_)), some (.int (z_)), some (.int (nI (p_))), some (.int (nI (bN false))), some (.int (nI (c))), some (.int (nI (r_))), some (.int (nI (cl))), some (.int (nI (rw))), some (.int (nI (sumN 48 (fun j1 => bN (inR p_ r_ j1))))), none, none]) E dL_isStep_494 (Nat.le_of_ble_eq_true rfl) rfl rfl ?_
      refine V.iload E dL_isStep_496 rfl ?_
      refine V.aload_n E dL_isStep_498 rfl rfl ?_
      refine V.iload E dL_isStep_499 rfl ?_
      refine V.iload E dL_isStep_501 rfl ?_
      refine V.callS E (c_L_there G r_ (hr_)) (bl [obW G a1 h1 (qC q1 (pnt false (oX q1) (filR p_ r_ c (pic false (oX q1))))) g_491, obW G a2 h2 q2 j2, slB G (qC q1 (pnt false (oX q1) (filR p_ r_ c (pic false (oX q1))))), slB G q2]) [.int (nI (bN false)), .ref (a2 0 0), .int (nI (sumN 48 (fun j1 => bN (inR p_ r_ j1))))] gL_isStep_L_there rfl hd_L_there ⟨⟨Nat.le_of_ble_eq_true rfl, Nat.le_of_ble_eq_true rfl⟩, Nat.le_of_ble_eq_true rfl, Nat.le_of_ble_eq_true rfl⟩ rfl (Nat.le_of_ble_eq_true rfl) rfl dL_isStep_503 (List.Perm.refl _) (kc' := 0) (ks' := 0) rfl rfl (rwI (ws' := (bl [obW G a1 h1 (qC q1 (pnt false (oX q1) (filR p_ r_ c (pic false (oX q1))))) g_491, obW G a2 h2 q2 j2, slB G (qC q1 (pnt false (oX q1) (filR p_ r_ c (pic false (oX q1))))), slB G q2])) (List.Perm.refl _) ?_)
      refine V.iload E dL_isStep_506 rfl ?_
      refine V.callS E (c_L_there G p_ (hp)) (bl [obW G a1 h1 (qC q1 (pnt false (oX q1) (filR p_ r_ c (pic false (oX q1))))) g_491, obW G a2 h2 q2 j2, slB G (qC q1 (pnt false (oX q1) (filR p_ r_ c (pic false (oX q1))))), slB G q2]) [.int (nI (mP r_)), .int (nI (bN false)), .ref (a2 0 0), .int (nI (sumN 48 (fun j1 => bN (inR p_ r_ j1))))] gL_isStep_L_there rfl hd_L_there ⟨⟨Nat.le_of_ble_eq_true rfl, Nat.le_of_ble_eq_true rfl⟩, Nat.le_of_ble_eq_true rfl, Nat.le_of_ble_eq_true rfl⟩ rfl (Nat.le_of_ble_eq_true rfl) rfl dL_isStep_508 (List.Perm.refl _) (kc' := 0) (ks' := 0) rfl rfl (rwI (ws' := (bl [obW G a1 h1 (qC q1 (pnt false (oX q1) (filR p_ r_ c (pic false (oX q1))))) g_491, obW G a2 h2 q2 j2, slB G (qC q1 (pnt false (oX q1) (filR p_ r_ c (pic false (oX q1))))), slB G q2])) (List.Perm.refl _) ?_)
      refine V.iload E dL_isStep_511 rfl ?_
      refine V.callV (C := RX4) E (o_fill G a2 h2 q2 j2 false (mP r_) (mP p_) c (h.r) (mP_lt hr_) (mP_lt hp) (hc)) (bl [obW G a1 h1 (qC q1 (pnt false (oX q1) (filR p_ r_ c (pic false (oX q1))))) g_491, slB G (qC q1 (pnt false (oX q1) (filR p_ r_ c (pic false (oX q1)))))]) [.int (nI (sumN 48 (fun j1 => bN (inR p_ r_ j1))))] 66 4 rfl rfl rfl gL_isStep_X4_fill rfl ⟨rfl, hd_X4_fill⟩ ⟨⟨Nat.le_of_ble_eq_true rfl, Nat.le_of_ble_eq_true rfl⟩, Nat.le_of_ble_eq_true rfl, Nat.le_of_ble_eq_true rfl⟩ rfl (Nat.le_of_ble_eq_true rfl) rfl dL_isStep_513 (pBs (n := 4) [obW G a1 h1 (qC q1 (pnt false (oX q1) (filR p_ r_ c (pic false (oX q1))))) g_491, obW G a2 h2 q2 j2, slB G (qC q1 (pnt false (oX q1) (filR p_ r_ c (pic false (oX q1))))), slB G q2] [1, 3] [0, 2] rfl (by decide)) (kc' := 0) (ks' := 0) rfl rfl (rxI (ws' := fun (g_513 : OJ) => (bl [obW G a1 h1 (qC q1 (pnt false (oX q1) (filR p_ r_ c (pic false (oX q1))))) g_491, obW G a2 h2 (qC q2 (pnt false (oX q2) (filR (mP r_) (mP p_) c (pic false (oX q2))))) g_513, slB G (qC q1 (pnt false (oX q1) (filR p_ r_ c (pic false (oX q1))))), slB G (qC q2 (pnt false (oX q2) (filR (mP r_) (mP p_) c (pic false (oX q2)))))])) (fun g_513 => (pBs (n := 4) [obW G a1 h1 (qC q1 (pnt false (oX q1) (filR p_ r_ c (pic false (oX q1))))) g_491, obW G a2 h2 (qC q2 (pnt false (oX q2) (filR (mP r_) (mP p_) c (pic false (oX q2))))) g_513, slB G (qC q1 (pnt false (oX q1) (filR p_ r_ c (pic false (oX q1))))), slB G (qC q2 (pnt false (oX q2) (filR (mP r_) (mP p_) c (pic false (oX q2)))))] [1, 3] [0, 2] rfl (by decide)).symm) (fun g_513 hf_513 => ?_))
      refine V.icmp_ne (tgt := 579) E dL_isStep_516 (by decide) (fun q_516 => ?_) (fun q_516 => ?_)
      · exact absurd (congrArg nI (inR_sum_m p_ r_)).symm q_516
      · refine V.iload E dL_isStep_519 rfl ?_
        refine V.iload E dL_isStep_521 rfl ?_
        refine V.iconst (v := nI (1)) E dL_isStep_523 (by decide) ?_
        refine V.iaddN E  dL_isStep_524 ?_
        refine V.iload E dL_isStep_525 rfl ?_
        refine V.iconst (v := nI (1)) E dL_isStep_527 (by decide) ?_
        refine V.iaddN E  dL_isStep_528 ?_
        refine V.imulN E  dL_isStep_529 ?_
        refine V.icmp_ne (tgt := 579) E dL_isStep_530 (by decide) (fun q_530 => ?_) (fun q_530 => ?_)
        · exact absurd (congrArg nI (by rw [hcl, hrw]; exact inR_sum p_ hp r_ hr_)) q_530
        · refine V.aload_n E dL_isStep_533 rfl rfl ?_
          refine V.iload E dL_isStep_534 rfl ?_
          refine V.iload E dL_isStep_536 rfl ?_
          refine V.if_eqB (tgt := 545) E dL_isStep_538 (by decide) (fun q_538 => ?_) (fun q_538 => ?_)
          · refine V.iconst (v := nI (1)) E dL_isStep_545 (by decide) ?_
            refine V.callV (C := RX4) E (o_pixel G a1 h1 (qC q1 (pnt false (oX q1) (filR p_ r_ c (pic false (oX q1))))) g_491 p_ 1 ((h.fill false hc).q) (hp) (by decide)) (bl [obW G a2 h2 (qC q2 (pnt false (oX q2) (filR (mP r_) (mP p_) c (pic false (oX q2))))) g_513, slB G (qC q2 (pnt false (oX q2) (filR (mP r_) (mP p_) c (pic false (oX q2)))))]) [] 0 4 rfl rfl rfl gL_isStep_X4_pixel rfl ⟨rfl, hd_X4_pixel⟩ ⟨⟨Nat.le_of_ble_eq_true rfl, Nat.le_of_ble_eq_true rfl⟩, Nat.le_of_ble_eq_true rfl, Nat.le_of_ble_eq_true rfl⟩ rfl (Nat.le_of_ble_eq_true rfl) rfl dL_isStep_546 (pBs (n := 4) [obW G a1 h1 (qC q1 (pnt false (oX q1) (filR p_ r_ c (pic false (oX q1))))) g_491, obW G a2 h2 (qC q2 (pnt false (oX q2) (filR (mP r_) (mP p_) c (pic false (oX q2))))) g_513, slB G (qC q1 (pnt false (oX q1) (filR p_ r_ c (pic false (oX q1))))), slB G (qC q2 (pnt false (oX q2) (filR (mP r_) (mP p_) c (pic false (oX q2)))))] [0, 2] [1, 3] rfl (by decide)) (kc' := 0) (ks' := 0) rfl rfl (rxI (ws' := fun (g_546 : OJ) => (bl [obW G a1 h1 (qC q1 (pnt false (oX q1) (filR p_ r_ c (pic false (oX q1))))) g_546, obW G a2 h2 (qC q2 (pnt false (oX q2) (filR (mP r_) (mP p_) c (pic false (oX q2))))) g_513, slB G (qC q1 (pnt false (oX q1) (filR p_ r_ c (pic false (oX q1))))), slB G (qC q2 (pnt false (oX q2) (filR (mP r_) (mP p_) c (pic false (oX q2)))))])) (fun g_546 => (pBs (n := 4) [obW G a1 h1 (qC q1 (pnt false (oX q1) (filR p_ r_ c (pic false (oX q1))))) g_546, obW G a2 h2 (qC q2 (pnt false (oX q2) (filR (mP r_) (mP p_) c (pic false (oX q2))))) g_513, slB G (qC q1 (pnt false (oX q1) (filR p_ r_ c (pic false (oX q1))))), slB G (qC q2 (pnt false (oX q2) (filR (mP r_) (mP p_) c (pic false (oX q2)))))] [0, 2] [1, 3] rfl (by decide)).symm) (fun g_546 hf_546 => ?_))
            refine V.iload E dL_isStep_549 rfl ?_
            refine V.icmp_ne (tgt := 579) E dL_isStep_551 (by decide) (fun q_551 => ?_) (fun q_551 => ?_)
            · exact absurd (congrArg nI (show filR p_ r_ c (scB (oX q1)) p_ = c from if_pos (inR_l p_ r_))) q_551
            · refine V.aload_n E dL_isStep_554 rfl rfl ?_
              refine V.iload E dL_isStep_555 rfl ?_
              refine V.iload E dL_isStep_557 rfl ?_
              refine V.if_eqB (tgt := 566) E dL_isStep_559 (by decide) (fun q_559 => ?_) (fun q_559 => ?_)
              · refine V.iconst (v := nI (1)) E dL_isStep_566 (by decide) ?_
                refine V.callV (C := RX4) E (o_pixel G a1 h1 (qC q1 (pnt false (oX q1) (filR p_ r_ c (pic false (oX q1))))) g_546 r_ 1 ((h.fill false hc).q) (hr_) (by decide)) (bl [obW G a2 h2 (qC q2 (pnt false (oX q2) (filR (mP r_) (mP p_) c (pic false (oX q2))))) g_513, slB G (qC q2 (pnt false (oX q2) (filR (mP r_) (mP p_) c (pic false (oX q2)))))]) [] 0 4 rfl rfl rfl gL_isStep_X4_pixel rfl ⟨rfl, hd_X4_pixel⟩ ⟨⟨Nat.le_of_ble_eq_true rfl, Nat.le_of_ble_eq_true rfl⟩, Nat.le_of_ble_eq_true rfl, Nat.le_of_ble_eq_true rfl⟩ rfl (Nat.le_of_ble_eq_true rfl) rfl dL_isStep_567 (pBs (n := 4) [obW G a1 h1 (qC q1 (pnt false (oX q1) (filR p_ r_ c (pic false (oX q1))))) g_546, obW G a2 h2 (qC q2 (pnt false (oX q2) (filR (mP r_) (mP p_) c (pic false (oX q2))))) g_513, slB G (qC q1 (pnt false (oX q1) (filR p_ r_ c (pic false (oX q1))))), slB G (qC q2 (pnt false (oX q2) (filR (mP r_) (mP p_) c (pic false (oX q2)))))] [0, 2] [1, 3] rfl (by decide)) (kc' := 0) (ks' := 0) rfl rfl (rxI (ws' := fun (g_567 : OJ) => (bl [obW G a1 h1 (qC q1 (pnt false (oX q1) (filR p_ r_ c (pic false (oX q1))))) g_567, obW G a2 h2 (qC q2 (pnt false (oX q2) (filR (mP r_) (mP p_) c (pic false (oX q2))))) g_513, slB G (qC q1 (pnt false (oX q1) (filR p_ r_ c (pic false (oX q1))))), slB G (qC q2 (pnt false (oX q2) (filR (mP r_) (mP p_) c (pic false (oX q2)))))])) (fun g_567 => (pBs (n := 4) [obW G a1 h1 (qC q1 (pnt false (oX q1) (filR p_ r_ c (pic false (oX q1))))) g_567, obW G a2 h2 (qC q2 (pnt false (oX q2) (filR (mP r_) (mP p_) c (pic false (oX q2))))) g_513, slB G (qC q1 (pnt false (oX q1) (filR p_ r_ c (pic false (oX q1))))), slB G (qC q2 (pnt false (oX q2) (filR (mP r_) (mP p_) c (pic false (oX q2)))))] [0, 2] [1, 3] rfl (by decide)).symm) (fun g_567 hf_567 => ?_))
                refine V.iload E dL_isStep_570 rfl ?_
                refine V.icmp_ne (tgt := 579) E dL_isStep_572 (by decide) (fun q_572 => ?_) (fun q_572 => ?_)
                · exact absurd (congrArg nI (show filR p_ r_ c (scB (oX q1)) r_ = c from if_pos (inR_r p_ r_))) q_572
                · refine V.iconst (v := nI (1)) E dL_isStep_575 (by decide) ?_
                  refine V.goto (tgt := 580) E dL_isStep_576 (by decide) ?_
                  refine V.widen (k := 10) (n := 310) (Nat.le_of_ble_eq_true rfl) (Nat.le_of_ble_eq_true rfl) ?_
                  exact hend _ _ _ _ dL_isStep_580 (nrB true) ⟨(qC q1 (pnt false (oX q1) (filR p_ r_ c (pic false (oX q1)))), g_567, qC q2 (pnt false (oX q2) (filR (mP r_) (mP p_) c (pic false (oX q2)))), g_513), rfl, rfl, h.fill false hc⟩
              · exact absurd q_559 (by decide)
          · exact absurd q_538 (by decide)
    refine V.iload E dL_isStep_442 rfl ?_
    refine V.bipush (v := nI (8)) E dL_isStep_444 (by decide) ?_
    refine V.idivN E (by omega) (by omega) (by omega) dL_isStep_446 ?_
    refine V.iload E dL_isStep_447 rfl ?_
    refine V.bipush (v := nI (8)) E dL_isStep_449 (by decide) ?_
    refine V.idivN E (by omega) (by omega) (by omega) dL_isStep_451 ?_
    refine V.icmp_geN (tgt := 469) E (by omega) (by omega) dL_isStep_452 (by decide) (fun q_452 => ?_) (fun q_452 => ?_)
    · refine V.iload E dL_isStep_469 rfl ?_
      refine V.bipush (v := nI (8)) E dL_isStep_471 (by decide) ?_
      refine V.idivN E (by omega) (by omega) (by omega) dL_isStep_473 ?_
      refine V.iload E dL_isStep_474 rfl ?_
      refine V.bipush (v := nI (8)) E dL_isStep_476 (by decide) ?_
      refine V.idivN E (by omega) (by omega) (by omega) dL_isStep_478 ?_
      refine V.isubN E (by omega) dL_isStep_479 ?_
      exact hJ_480 _ (by unfold dif; first | rw [if_pos q_452] | rw [if_neg (by omega)])
    · refine V.iload E dL_isStep_455 rfl ?_
      refine V.bipush (v := nI (8)) E dL_isStep_457 (by decide) ?_
      refine V.idivN E (by omega) (by omega) (by omega) dL_isStep_459 ?_
      refine V.iload E dL_isStep_460 rfl ?_
      refine V.bipush (v := nI (8)) E dL_isStep_462 (by decide) ?_
      refine V.idivN E (by omega) (by omega) (by omega) dL_isStep_464 ?_
      refine V.isubN E (by omega) dL_isStep_465 ?_
      refine V.goto (tgt := 480) E dL_isStep_466 (by decide) ?_
      exact hJ_480 _ (by unfold dif; first | rw [if_pos q_452] | rw [if_neg (by omega)])
  refine V.iload E dL_isStep_402 rfl ?_
  refine V.bipush (v := nI (8)) E dL_isStep_404 (by decide) ?_
  refine V.iremN E (by omega) (by omega) (by omega) dL_isStep_406 ?_
  refine V.iload E dL_isStep_407 rfl ?_
  refine V.bipush (v := nI (8)) E dL_isStep_409 (by decide) ?_
  refine V.iremN E (by omega) (by omega) (by omega) dL_isStep_411 ?_
  refine V.icmp_geN (tgt := 429) E (by omega) (by omega) dL_isStep_412 (by decide) (fun q_412 => ?_) (fun q_412 => ?_)
  · refine V.iload E dL_isStep_429 rfl ?_
    refine V.bipush (v := nI (8)) E dL_isStep_431 (by decide) ?_
    refine V.iremN E (by omega) (by omega) (by omega) dL_isStep_433 ?_
    refine V.iload E dL_isStep_434 rfl ?_
    refine V.bipush (v := nI (8)) E dL_isStep_436 (by decide) ?_
    refine V.iremN E (by omega) (by omega) (by omega) dL_isStep_438 ?_
    refine V.isubN E (by omega) dL_isStep_439 ?_
    exact hJ_440 _ (by unfold dif; first | rw [if_pos q_412] | rw [if_neg (by omega)])
  · refine V.iload E dL_isStep_415 rfl ?_
    refine V.bipush (v := nI (8)) E dL_isStep_417 (by decide) ?_
    refine V.iremN E (by omega) (by omega) (by omega) dL_isStep_419 ?_
    refine V.iload E dL_isStep_420 rfl ?_
    refine V.bipush (v := nI (8)) E dL_isStep_422 (by decide) ?_
    refine V.iremN E (by omega) (by omega) (by omega) dL_isStep_424 ?_
    refine V.isubN E (by omega) dL_isStep_425 ?_
    refine V.goto (tgt := 440) E dL_isStep_426 (by decide) ?_
    exact hJ_440 _ (by unfold dif; first | rw [if_pos q_412] | rw [if_neg (by omega)])
set_option maxRecDepth 100000 in
set_option maxHeartbeats 8000000 in
theorem st_905_f {G : VC} {A : Nat → Prop} {X : VX} (E : Ev G A X cL_isStep RL wsL_isStep 14) {a1 h1 a2 h2 : AD} (hend : HES G A X a1 h1 a2 h2) {q1 q2 : OQ} (j1 j2 : OJ) (h : Rel q1 q2) (x_ y_ z_ : Int32) {p_ : Nat} (hp : p_ < 48) {c : Nat} (hc : c < 4096) : V G A X rm_o_isStep (bl [obW G a1 h1 q1 j1, obW G a2 h2 q2 j2, slB G q1, slB G q2]) 0 0 905 [some (.ref (a1 0 0)), some (.ref (a2 0 0)), some (.int (x_)), some (.int (y_)), some (.int (z_)), some (.int (nI (p_))), some (.int (nI (bN false))), some (.int (nI (c))), none, none, none, none, none, none] [] := by
  refine V.aload_n E dL_isStep_905 rfl rfl ?_
  refine V.iload E dL_isStep_906 rfl ?_
  refine V.iload E dL_isStep_908 rfl ?_
  refine V.if_eqB (tgt := 917) E dL_isStep_910 (by decide) (fun q_910 => ?_) (fun q_910 => ?_)
  · refine V.iconst (v := nI (1)) E dL_isStep_917 (by decide) ?_
    refine V.callV (C := RX4) E (o_pixel G a1 h1 q1 j1 p_ 1 (h.q) (hp) (by decide)) (bl [obW G a2 h2 q2 j2, slB G q2]) [] 0 4 rfl rfl rfl gL_isStep_X4_pixel rfl ⟨rfl, hd_X4_pixel⟩ ⟨⟨Nat.le_of_ble_eq_true rfl, Nat.le_of_ble_eq_true rfl⟩, Nat.le_of_ble_eq_true rfl, Nat.le_of_ble_eq_true rfl⟩ rfl (Nat.le_of_ble_eq_true rfl) rfl dL_isStep_918 (pBs (n := 4) [obW G a1 h1 q1 j1, obW G a2 h2 q2 j2, slB G q1, slB G q2] [0, 2] [1, 3] rfl (by decide)) (kc' := 0) (ks' := 0) rfl rfl (rxI (ws' := fun (g_918 : OJ) => (bl [obW G a1 h1 q1 g_918, obW G a2 h2 q2 j2, slB G q1, slB G q2])) (fun g_918 => (pBs (n := 4) [obW G a1 h1 q1 g_918, obW G a2 h2 q2 j2, slB G q1, slB G q2] [0, 2] [1, 3] rfl (by decide)).symm) (fun g_918 hf_918 => ?_))
    refine V.istore (lv' := [some (.ref (a1 0 0)), some (.ref (a2 0 0)), some (.int (x_)), some (.int (y_)), some (.int (z_)), some (.int (nI (p_))), some (.int (nI (bN false))), some (.int (nI (c))), some (.int (nI (pxN (oX q1) p_ 1))), none, none, none, none, none]) E dL_isStep_921 (Nat.le_of_ble_eq_true rfl) rfl rfl ?_
    refine V.aload_n E dL_isStep_923 rfl rfl ?_
    refine V.iload E dL_isStep_924 rfl ?_
    refine V.iload E dL_isStep_926 rfl ?_
    refine V.iload E dL_isStep_928 rfl ?_
    refine V.callV (C := RX4) E (o_paint G a1 h1 q1 g_918 false p_ c (h.q) (hp) (hc)) (bl [obW G a2 h2 q2 j2, slB G q2]) [] 0 4 rfl rfl rfl gL_isStep_X4_paint rfl ⟨rfl, hd_X4_paint⟩ ⟨⟨Nat.le_of_ble_eq_true rfl, Nat.le_of_ble_eq_true rfl⟩, Nat.le_of_ble_eq_true rfl, Nat.le_of_ble_eq_true rfl⟩ rfl (Nat.le_of_ble_eq_true rfl) rfl dL_isStep_930 (pBs (n := 4) [obW G a1 h1 q1 g_918, obW G a2 h2 q2 j2, slB G q1, slB G q2] [0, 2] [1, 3] rfl (by decide)) (kc' := 0) (ks' := 0) rfl rfl (rxI (ws' := fun (g_930 : OJ) => (bl [obW G a1 h1 (qC q1 (pnt false (oX q1) (upN (pic false (oX q1)) p_ c))) g_930, obW G a2 h2 q2 j2, slB G (qC q1 (pnt false (oX q1) (upN (pic false (oX q1)) p_ c))), slB G q2])) (fun g_930 => (pBs (n := 4) [obW G a1 h1 (qC q1 (pnt false (oX q1) (upN (pic false (oX q1)) p_ c))) g_930, obW G a2 h2 q2 j2, slB G (qC q1 (pnt false (oX q1) (upN (pic false (oX q1)) p_ c))), slB G q2] [0, 2] [1, 3] rfl (by decide)).symm) (fun g_930 hf_930 => ?_))
    refine V.iload E dL_isStep_933 rfl ?_
    refine V.icmp_ne (tgt := 981) E dL_isStep_935 (by decide) (fun q_935 => ?_) (fun q_935 => ?_)
    · exact absurd rfl q_935
    · refine V.aload_n E dL_isStep_938 rfl rfl ?_
      refine V.iload E dL_isStep_939 rfl ?_
      refine V.iload E dL_isStep_941 rfl ?_
      refine V.callS E (c_L_there G p_ (hp)) (bl [obW G a1 h1 (qC q1 (pnt false (oX q1) (upN (pic false (oX q1)) p_ c))) g_930, obW G a2 h2 q2 j2, slB G (qC q1 (pnt false (oX q1) (upN (pic false (oX q1)) p_ c))), slB G q2]) [.int (nI (bN false)), .ref (a2 0 0)] gL_isStep_L_there rfl hd_L_there ⟨⟨Nat.le_of_ble_eq_true rfl, Nat.le_of_ble_eq_true rfl⟩, Nat.le_of_ble_eq_true rfl, Nat.le_of_ble_eq_true rfl⟩ rfl (Nat.le_of_ble_eq_true rfl) rfl dL_isStep_943 (List.Perm.refl _) (kc' := 0) (ks' := 0) rfl rfl (rwI (ws' := (bl [obW G a1 h1 (qC q1 (pnt false (oX q1) (upN (pic false (oX q1)) p_ c))) g_930, obW G a2 h2 q2 j2, slB G (qC q1 (pnt false (oX q1) (upN (pic false (oX q1)) p_ c))), slB G q2])) (List.Perm.refl _) ?_)
      refine V.iload E dL_isStep_946 rfl ?_
      refine V.callV (C := RX4) E (o_paint G a2 h2 q2 j2 false (mP p_) c (h.r) (mP_lt hp) (hc)) (bl [obW G a1 h1 (qC q1 (pnt false (oX q1) (upN (pic false (oX q1)) p_ c))) g_930, slB G (qC q1 (pnt false (oX q1) (upN (pic false (oX q1)) p_ c)))]) [] 66 4 rfl rfl rfl gL_isStep_X4_paint rfl ⟨rfl, hd_X4_paint⟩ ⟨⟨Nat.le_of_ble_eq_true rfl, Nat.le_of_ble_eq_true rfl⟩, Nat.le_of_ble_eq_true rfl, Nat.le_of_ble_eq_true rfl⟩ rfl (Nat.le_of_ble_eq_true rfl) rfl dL_isStep_948 (pBs (n := 4) [obW G a1 h1 (qC q1 (pnt false (oX q1) (upN (pic false (oX q1)) p_ c))) g_930, obW G a2 h2 q2 j2, slB G (qC q1 (pnt false (oX q1) (upN (pic false (oX q1)) p_ c))), slB G q2] [1, 3] [0, 2] rfl (by decide)) (kc' := 0) (ks' := 0) rfl rfl (rxI (ws' := fun (g_948 : OJ) => (bl [obW G a1 h1 (qC q1 (pnt false (oX q1) (upN (pic false (oX q1)) p_ c))) g_930, obW G a2 h2 (qC q2 (pnt false (oX q2) (upN (pic false (oX q2)) (mP p_) c))) g_948, slB G (qC q1 (pnt false (oX q1) (upN (pic false (oX q1)) p_ c))), slB G (qC q2 (pnt false (oX q2) (upN (pic false (oX q2)) (mP p_) c)))])) (fun g_948 => (pBs (n := 4) [obW G a1 h1 (qC q1 (pnt false (oX q1) (upN (pic false (oX q1)) p_ c))) g_930, obW G a2 h2 (qC q2 (pnt false (oX q2) (upN (pic false (oX q2)) (mP p_) c))) g_948, slB G (qC q1 (pnt false (oX q1) (upN (pic false (oX q1)) p_ c))), slB G (qC q2 (pnt false (oX q2) (upN (pic false (oX q2)) (mP p_) c)))] [1, 3] [0, 2] rfl (by decide)).symm) (fun g_948 hf_948 => ?_))
      refine V.iload E dL_isStep_951 rfl ?_
      refine V.icmp_ne (tgt := 981) E dL_isStep_953 (by decide) (fun q_953 => ?_) (fun q_953 => ?_)
      · exact absurd (congrArg nI (h.pik false p_)) q_953
      · refine V.aload_n E dL_isStep_956 rfl rfl ?_
        refine V.iload E dL_isStep_957 rfl ?_
        refine V.iload E dL_isStep_959 rfl ?_
        refine V.if_eqB (tgt := 968) E dL_isStep_961 (by decide) (fun q_961 => ?_) (fun q_961 => ?_)
        · refine V.iconst (v := nI (1)) E dL_isStep_968 (by decide) ?_
          refine V.callV (C := RX4) E (o_pixel G a1 h1 (qC q1 (pnt false (oX q1) (upN (pic false (oX q1)) p_ c))) g_930 p_ 1 ((h.paint false (p := p_) hc).q) (hp) (by decide)) (bl [obW G a2 h2 (qC q2 (pnt false (oX q2) (upN (pic false (oX q2)) (mP p_) c))) g_948, slB G (qC q2 (pnt false (oX q2) (upN (pic false (oX q2)) (mP p_) c)))]) [] 0 4 rfl rfl rfl gL_isStep_X4_pixel rfl ⟨rfl, hd_X4_pixel⟩ ⟨⟨Nat.le_of_ble_eq_true rfl, Nat.le_of_ble_eq_true rfl⟩, Nat.le_of_ble_eq_true rfl, Nat.le_of_ble_eq_true rfl⟩ rfl (Nat.le_of_ble_eq_true rfl) rfl dL_isStep_969 (pBs (n := 4) [obW G a1 h1 (qC q1 (pnt false (oX q1) (upN (pic false (oX q1)) p_ c))) g_930, obW G a2 h2 (qC q2 (pnt false (oX q2) (upN (pic false (oX q2)) (mP p_) c))) g_948, slB G (qC q1 (pnt false (oX q1) (upN (pic false (oX q1)) p_ c))), slB G (qC q2 (pnt false (oX q2) (upN (pic false (oX q2)) (mP p_) c)))] [0, 2] [1, 3] rfl (by decide)) (kc' := 0) (ks' := 0) rfl rfl (rxI (ws' := fun (g_969 : OJ) => (bl [obW G a1 h1 (qC q1 (pnt false (oX q1) (upN (pic false (oX q1)) p_ c))) g_969, obW G a2 h2 (qC q2 (pnt false (oX q2) (upN (pic false (oX q2)) (mP p_) c))) g_948, slB G (qC q1 (pnt false (oX q1) (upN (pic false (oX q1)) p_ c))), slB G (qC q2 (pnt false (oX q2) (upN (pic false (oX q2)) (mP p_) c)))])) (fun g_969 => (pBs (n := 4) [obW G a1 h1 (qC q1 (pnt false (oX q1) (upN (pic false (oX q1)) p_ c))) g_969, obW G a2 h2 (qC q2 (pnt false (oX q2) (upN (pic false (oX q2)) (mP p_) c))) g_948, slB G (qC q1 (pnt false (oX q1) (upN (pic false (oX q1)) p_ c))), slB G (qC q2 (pnt false (oX q2) (upN (pic false (oX q2)) (mP p_) c)))] [0, 2] [1, 3] rfl (by decide)).symm) (fun g_969 hf_969 => ?_))
          refine V.iload E dL_isStep_972 rfl ?_
          refine V.icmp_ne (tgt := 981) E dL_isStep_974 (by decide) (fun q_974 => ?_) (fun q_974 => ?_)
          · exact absurd (congrArg nI (show upN (scB (oX q1)) p_ c p_ = c from upN_s)) q_974
          · refine V.iconst (v := nI (1)) E dL_isStep_977 (by decide) ?_
            refine V.goto (tgt := 982) E dL_isStep_978 (by decide) ?_
            refine V.widen (k := 10) (n := 310) (Nat.le_of_ble_eq_true rfl) (Nat.le_of_ble_eq_true rfl) ?_
            exact hend _ _ _ _ dL_isStep_982 (nrB true) ⟨(qC q1 (pnt false (oX q1) (upN (pic false (oX q1)) p_ c)), g_969, qC q2 (pnt false (oX q2) (upN (pic false (oX q2)) (mP p_) c)), g_948), rfl, rfl, h.paint false hc⟩
        · exact absurd q_961 (by decide)
  · exact absurd q_910 (by decide)
set_option maxRecDepth 100000 in
set_option maxHeartbeats 8000000 in
theorem st_581 {G : VC} {A : Nat → Prop} {X : VX} (E : Ev G A X cL_isStep RL wsL_isStep 14) {a1 h1 a2 h2 : AD} (hend : HES G A X a1 h1 a2 h2) {q1 q2 : OQ} (j1 j2 : OJ) (h : Rel q1 q2) (x_ y_ z_ : Int32) {p_ : Nat} (hp : p_ < 48) (fr : Bool) {c : Nat} (hc : c < 4096) : V G A X rm_o_isStep (bl [obW G a1 h1 q1 j1, obW G a2 h2 q2 j2, slB G q1, slB G q2]) 0 0 581 [some (.ref (a1 0 0)), some (.ref (a2 0 0)), some (.int (x_)), some (.int (y_)), some (.int (z_)), some (.int (nI (p_))), some (.int (nI (bN fr))), some (.int (nI (c))), none, none, none, none, none, none] [] := by
  refine V.aload_n E dL_isStep_581 rfl rfl ?_
  refine V.iload E dL_isStep_582 rfl ?_
  refine V.iconst (v := nI (5)) E dL_isStep_584 (by decide) ?_
  refine V.callV (C := RX4) E (o_pixel G a1 h1 q1 j1 p_ 5 (h.q) (hp) (by decide)) (bl [obW G a2 h2 q2 j2, slB G q2]) [] 0 4 rfl rfl rfl gL_isStep_X4_pixel rfl ⟨rfl, hd_X4_pixel⟩ ⟨⟨Nat.le_of_ble_eq_true rfl, Nat.le_of_ble_eq_true rfl⟩, Nat.le_of_ble_eq_true rfl, Nat.le_of_ble_eq_true rfl⟩ rfl (Nat.le_of_ble_eq_true rfl) rfl dL_isStep_585 (pBs (n := 4) [obW G a1 h1 q1 j1, obW G a2 h2 q2 j2, slB G q1, slB G q2] [0, 2] [1, 3] rfl (by decide)) (kc' := 0) (ks' := 0) rfl rfl (rxI (ws' := fun (g_585 : OJ) => (bl [obW G a1 h1 q1 g_585, obW G a2 h2 q2 j2, slB G q1, slB G q2])) (fun g_585 => (pBs (n := 4) [obW G a1 h1 q1 g_585, obW G a2 h2 q2 j2, slB G q1, slB G q2] [0, 2] [1, 3] rfl (by decide)).symm) (fun g_585 hf_585 => ?_))
  refine V.iconst (v := nI (4)) E dL_isStep_588 (by decide) ?_
  refine V.icmp_eqN (tgt := 596) E (Nat.lt_trans (pxN_b h.q.x hp _) (by decide)) (by decide) dL_isStep_589 (by decide) (fun q_589 => ?_) (fun q_589 => ?_)
  · have hg_ : scG (oX q1) p_ = 1 := (knd4 (oX q1) p_).mp q_589
    refine V.iconst (v := nI (0)) E dL_isStep_596 (by decide) ?_
    refine V.istore (lv' := [some (.ref (a1 0 0)), some (.ref (a2 0 0)), some (.int (x_)), some (.int (y_)), some (.int (z_)), some (.int (nI (p_))), some (.int (nI (bN fr))), some (.int (nI (c))), some (.int (nI (0))), none, none, none, none, none]) E dL_isStep_597 (Nat.le_of_ble_eq_true rfl) rfl rfl ?_
    refine V.locN (b := bN false) (lv' := [some (.ref (a1 0 0)), some (.ref (a2 0 0)), some (.int (x_)), some (.int (y_)), some (.int (z_)), some (.int (nI (p_))), some (.int (nI (bN fr))), some (.int (nI (c))), some (.int (nI (bN false))), none, none, none, none, none]) 8 (rfl) rfl rfl ?_
    refine V.aload_n E dL_isStep_599 rfl rfl ?_
    refine V.bipush (v := nI (18)) E dL_isStep_600 (by decide) ?_
    refine V.callV (C := RX4) E (o_count G a1 h1 q1 g_585 18 (h.q) (by decide)) (bl [obW G a2 h2 q2 j2, slB G q2]) [] 0 4 rfl rfl rfl gL_isStep_X4_count rfl ⟨rfl, hd_X4_count⟩ ⟨⟨Nat.le_of_ble_eq_true rfl, Nat.le_of_ble_eq_true rfl⟩, Nat.le_of_ble_eq_true rfl, Nat.le_of_ble_eq_true rfl⟩ rfl (Nat.le_of_ble_eq_true rfl) rfl dL_isStep_602 (pBs (n := 4) [obW G a1 h1 q1 g_585, obW G a2 h2 q2 j2, slB G q1, slB G q2] [0, 2] [1, 3] rfl (by decide)) (kc' := 0) (ks' := 0) rfl rfl (rxI (ws' := fun (g_602 : OJ) => (bl [obW G a1 h1 q1 g_602, obW G a2 h2 q2 j2, slB G q1, slB G q2])) (fun g_602 => (pBs (n := 4) [obW G a1 h1 q1 g_602, obW G a2 h2 q2 j2, slB G q1, slB G q2] [0, 2] [1, 3] rfl (by decide)).symm) (fun g_602 hf_602 => ?_))
    refine V.istore (lv' := [some (.ref (a1 0 0)), some (.ref (a2 0 0)), some (.int (x_)), some (.int (y_)), some (.int (z_)), some (.int (nI (p_))), some (.int (nI (bN fr))), some (.int (nI (c))), some (.int (nI (bN false))), some (.int (nI (cnN (oX q1) (oL q1) (oN q1) 18))), none, none, none, none]) E dL_isStep_605 (Nat.le_of_ble_eq_true rfl) rfl rfl ?_
    refine V.aload_n E dL_isStep_607 rfl rfl ?_
    refine V.iload E dL_isStep_608 rfl ?_
    refine V.iload E dL_isStep_610 rfl ?_
    refine V.callV (C := RX4) E (o_mark G a1 h1 q1 g_602 p_ false (h.q) (hp)) (bl [obW G a2 h2 q2 j2, slB G q2]) [] 0 4 rfl rfl rfl gL_isStep_X4_mark rfl ⟨rfl, hd_X4_mark⟩ ⟨⟨Nat.le_of_ble_eq_true rfl, Nat.le_of_ble_eq_true rfl⟩, Nat.le_of_ble_eq_true rfl, Nat.le_of_ble_eq_true rfl⟩ rfl (Nat.le_of_ble_eq_true rfl) rfl dL_isStep_612 (pBs (n := 4) [obW G a1 h1 q1 g_602, obW G a2 h2 q2 j2, slB G q1, slB G q2] [0, 2] [1, 3] rfl (by decide)) (kc' := 0) (ks' := 0) rfl rfl (rxI (ws' := fun (g_612 : OJ) => (bl [obW G a1 h1 (qMrk q1 p_ false) g_612, obW G a2 h2 q2 j2, slB G (qMrk q1 p_ false), slB G q2])) (fun g_612 => (pBs (n := 4) [obW G a1 h1 (qMrk q1 p_ false) g_612, obW G a2 h2 q2 j2, slB G (qMrk q1 p_ false), slB G q2] [0, 2] [1, 3] rfl (by decide)).symm) (fun g_612 hf_612 => ?_))
    refine V.iload E dL_isStep_615 rfl ?_
    refine V.iload E dL_isStep_617 rfl ?_
    refine V.if_eqB (tgt := 626) E dL_isStep_619 (by decide) (fun q_619 => ?_) (fun q_619 => ?_)
    · refine V.iconst (v := (-1 : Int32)) E dL_isStep_626 (by decide) ?_
      refine V.iadd E dL_isStep_627  ?_
      refine V.icmp_ne (tgt := 689) E dL_isStep_628 (by decide) (fun q_628 => ?_) (fun q_628 => ?_)
      · exact absurd (mrk_f h.q hp hg_) q_628
      · refine V.aload_n E dL_isStep_631 rfl rfl ?_
        refine V.iload E dL_isStep_632 rfl ?_
        refine V.callS E (c_L_there G p_ (hp)) (bl [obW G a1 h1 (qMrk q1 p_ false) g_612, obW G a2 h2 q2 j2, slB G (qMrk q1 p_ false), slB G q2]) [.ref (a2 0 0)] gL_isStep_L_there rfl hd_L_there ⟨⟨Nat.le_of_ble_eq_true rfl, Nat.le_of_ble_eq_true rfl⟩, Nat.le_of_ble_eq_true rfl, Nat.le_of_ble_eq_true rfl⟩ rfl (Nat.le_of_ble_eq_true rfl) rfl dL_isStep_634 (List.Perm.refl _) (kc' := 0) (ks' := 0) rfl rfl (rwI (ws' := (bl [obW G a1 h1 (qMrk q1 p_ false) g_612, obW G a2 h2 q2 j2, slB G (qMrk q1 p_ false), slB G q2])) (List.Perm.refl _) ?_)
        refine V.iload E dL_isStep_637 rfl ?_
        refine V.callV (C := RX4) E (o_mark G a2 h2 q2 j2 (mP p_) false (h.r) (mP_lt hp)) (bl [obW G a1 h1 (qMrk q1 p_ false) g_612, slB G (qMrk q1 p_ false)]) [] 66 4 rfl rfl rfl gL_isStep_X4_mark rfl ⟨rfl, hd_X4_mark⟩ ⟨⟨Nat.le_of_ble_eq_true rfl, Nat.le_of_ble_eq_true rfl⟩, Nat.le_of_ble_eq_true rfl, Nat.le_of_ble_eq_true rfl⟩ rfl (Nat.le_of_ble_eq_true rfl) rfl dL_isStep_639 (pBs (n := 4) [obW G a1 h1 (qMrk q1 p_ false) g_612, obW G a2 h2 q2 j2, slB G (qMrk q1 p_ false), slB G q2] [1, 3] [0, 2] rfl (by decide)) (kc' := 0) (ks' := 0) rfl rfl (rxI (ws' := fun (g_639 : OJ) => (bl [obW G a1 h1 (qMrk q1 p_ false) g_612, obW G a2 h2 (qMrk q2 (mP p_) false) g_639, slB G (qMrk q1 p_ false), slB G (qMrk q2 (mP p_) false)])) (fun g_639 => (pBs (n := 4) [obW G a1 h1 (qMrk q1 p_ false) g_612, obW G a2 h2 (qMrk q2 (mP p_) false) g_639, slB G (qMrk q1 p_ false), slB G (qMrk q2 (mP p_) false)] [1, 3] [0, 2] rfl (by decide)).symm) (fun g_639 hf_639 => ?_))
        refine V.aload_n E dL_isStep_642 rfl rfl ?_
        refine V.bipush (v := nI (18)) E dL_isStep_643 (by decide) ?_
        refine V.callV (C := RX4) E (o_count G a1 h1 (qMrk q1 p_ false) g_612 18 ((h.mark p_ false).q) (by decide)) (bl [obW G a2 h2 (qMrk q2 (mP p_) false) g_639, slB G (qMrk q2 (mP p_) false)]) [.int (aMrk q2 (mP p_) false)] 0 4 rfl rfl rfl gL_isStep_X4_count rfl ⟨rfl, hd_X4_count⟩ ⟨⟨Nat.le_of_ble_eq_true rfl, Nat.le_of_ble_eq_true rfl⟩, Nat.le_of_ble_eq_true rfl, Nat.le_of_ble_eq_true rfl⟩ rfl (Nat.le_of_ble_eq_true rfl) rfl dL_isStep_645 (pBs (n := 4) [obW G a1 h1 (qMrk q1 p_ false) g_612, obW G a2 h2 (qMrk q2 (mP p_) false) g_639, slB G (qMrk q1 p_ false), slB G (qMrk q2 (mP p_) false)] [0, 2] [1, 3] rfl (by decide)) (kc' := 0) (ks' := 0) rfl rfl (rxI (ws' := fun (g_645 : OJ) => (bl [obW G a1 h1 (qMrk q1 p_ false) g_645, obW G a2 h2 (qMrk q2 (mP p_) false) g_639, slB G (qMrk q1 p_ false), slB G (qMrk q2 (mP p_) false)])) (fun g_645 => (pBs (n := 4) [obW G a1 h1 (qMrk q1 p_ false) g_645, obW G a2 h2 (qMrk q2 (mP p_) false) g_639, slB G (qMrk q1 p_ false), slB G (qMrk q2 (mP p_) false)] [0, 2] [1, 3] rfl (by decide)).symm) (fun g_645 hf_645 => ?_))
        refine V.icmp_ne (tgt := 689) E dL_isStep_648 (by decide) (fun q_648 => ?_) (fun q_648 => ?_)
        · exact absurd ((h.amark p_ false).trans (mrk_c (fun e => absurd (hg_.symm.trans e) (by decide)))) q_648
        · refine V.aload_n E dL_isStep_651 rfl rfl ?_
          refine V.iload E dL_isStep_652 rfl ?_
          refine V.iload E dL_isStep_654 rfl ?_
          refine V.callV (C := RX4) E (o_mark G a1 h1 (qMrk q1 p_ false) g_645 p_ false ((h.mark p_ false).q) (hp)) (bl [obW G a2 h2 (qMrk q2 (mP p_) false) g_639, slB G (qMrk q2 (mP p_) false)]) [] 0 4 rfl rfl rfl gL_isStep_X4_mark rfl ⟨rfl, hd_X4_mark⟩ ⟨⟨Nat.le_of_ble_eq_true rfl, Nat.le_of_ble_eq_true rfl⟩, Nat.le_of_ble_eq_true rfl, Nat.le_of_ble_eq_true rfl⟩ rfl (Nat.le_of_ble_eq_true rfl) rfl dL_isStep_656 (pBs (n := 4) [obW G a1 h1 (qMrk q1 p_ false) g_645, obW G a2 h2 (qMrk q2 (mP p_) false) g_639, slB G (qMrk q1 p_ false), slB G (qMrk q2 (mP p_) false)] [0, 2] [1, 3] rfl (by decide)) (kc' := 0) (ks' := 0) rfl rfl (rxI (ws' := fun (g_656 : OJ) => (bl [obW G a1 h1 (qMrk (qMrk q1 p_ false) p_ false) g_656, obW G a2 h2 (qMrk q2 (mP p_) false) g_639, slB G (qMrk (qMrk q1 p_ false) p_ false), slB G (qMrk q2 (mP p_) false)])) (fun g_656 => (pBs (n := 4) [obW G a1 h1 (qMrk (qMrk q1 p_ false) p_ false) g_656, obW G a2 h2 (qMrk q2 (mP p_) false) g_639, slB G (qMrk (qMrk q1 p_ false) p_ false), slB G (qMrk q2 (mP p_) false)] [0, 2] [1, 3] rfl (by decide)).symm) (fun g_656 hf_656 => ?_))
          refine V.bipush (v := (-5 : Int32)) E dL_isStep_659 (by decide) ?_
          refine V.icmp_ne (tgt := 689) E dL_isStep_661 (by decide) (fun q_661 => ?_) (fun q_661 => ?_)
          · exact absurd (mrk_a q1 p_ false) q_661
          · refine V.aload_n E dL_isStep_664 rfl rfl ?_
            refine V.iload E dL_isStep_665 rfl ?_
            refine V.iconst (v := nI (5)) E dL_isStep_667 (by decide) ?_
            refine V.callV (C := RX4) E (o_pixel G a1 h1 (qMrk (qMrk q1 p_ false) p_ false) g_656 p_ 5 ((h.mark2 p_ false).q) (hp) (by decide)) (bl [obW G a2 h2 (qMrk q2 (mP p_) false) g_639, slB G (qMrk q2 (mP p_) false)]) [] 0 4 rfl rfl rfl gL_isStep_X4_pixel rfl ⟨rfl, hd_X4_pixel⟩ ⟨⟨Nat.le_of_ble_eq_true rfl, Nat.le_of_ble_eq_true rfl⟩, Nat.le_of_ble_eq_true rfl, Nat.le_of_ble_eq_true rfl⟩ rfl (Nat.le_of_ble_eq_true rfl) rfl dL_isStep_668 (pBs (n := 4) [obW G a1 h1 (qMrk (qMrk q1 p_ false) p_ false) g_656, obW G a2 h2 (qMrk q2 (mP p_) false) g_639, slB G (qMrk (qMrk q1 p_ false) p_ false), slB G (qMrk q2 (mP p_) false)] [0, 2] [1, 3] rfl (by decide)) (kc' := 0) (ks' := 0) rfl rfl (rxI (ws' := fun (g_668 : OJ) => (bl [obW G a1 h1 (qMrk (qMrk q1 p_ false) p_ false) g_668, obW G a2 h2 (qMrk q2 (mP p_) false) g_639, slB G (qMrk (qMrk q1 p_ false) p_ false), slB G (qMrk q2 (mP p_) false)])) (fun g_668 => (pBs (n := 4) [obW G a1 h1 (qMrk (qMrk q1 p_ false) p_ false) g_668, obW G a2 h2 (qMrk q2 (mP p_) false) g_639, slB G (qMrk (qMrk q1 p_ false) p_ false), slB G (qMrk q2 (mP p_) false)] [0, 2] [1, 3] rfl (by decide)).symm) (fun g_668 hf_668 => ?_))
            refine V.iconst (v := nI (4)) E dL_isStep_671 (by decide) ?_
            refine V.icmp_neN (tgt := 679) E (Nat.lt_of_le_of_lt (kndF_le _ _) (by decide)) (by decide) dL_isStep_672 (by decide) (fun q_672 => ?_) (fun q_672 => ?_)
            · refine V.iconst (v := nI (0)) E dL_isStep_679 (by decide) ?_
              refine V.iload E dL_isStep_680 rfl ?_
              refine V.icmp_ne (tgt := 689) E dL_isStep_682 (by decide) (fun q_682 => ?_) (fun q_682 => ?_)
              · exact absurd rfl q_682
              · refine V.iconst (v := nI (1)) E dL_isStep_685 (by decide) ?_
                refine V.goto (tgt := 690) E dL_isStep_686 (by decide) ?_
                refine V.widen (k := 10) (n := 310) (Nat.le_of_ble_eq_true rfl) (Nat.le_of_ble_eq_true rfl) ?_
                exact hend _ _ _ _ dL_isStep_690 (nrB true) ⟨(qMrk (qMrk q1 p_ false) p_ false, g_668, qMrk q2 (mP p_) false, g_639), rfl, rfl, h.mark2 p_ false⟩
            · exact absurd ((knd4 _ p_).mp q_672) (by rw [mrk_q, mrk_s]; decide)
    · exact absurd q_619 (by decide)
  · have hg_ : ¬ scG (oX q1) p_ = 1 := fun e => q_589 ((knd4 (oX q1) p_).mpr e)
    refine V.iconst (v := nI (1)) E dL_isStep_592 (by decide) ?_
    refine V.goto (tgt := 597) E dL_isStep_593 (by decide) ?_
    refine V.istore (lv' := [some (.ref (a1 0 0)), some (.ref (a2 0 0)), some (.int (x_)), some (.int (y_)), some (.int (z_)), some (.int (nI (p_))), some (.int (nI (bN fr))), some (.int (nI (c))), some (.int (nI (1))), none, none, none, none, none]) E dL_isStep_597 (Nat.le_of_ble_eq_true rfl) rfl rfl ?_
    refine V.locN (b := bN true) (lv' := [some (.ref (a1 0 0)), some (.ref (a2 0 0)), some (.int (x_)), some (.int (y_)), some (.int (z_)), some (.int (nI (p_))), some (.int (nI (bN fr))), some (.int (nI (c))), some (.int (nI (bN true))), none, none, none, none, none]) 8 (rfl) rfl rfl ?_
    refine V.aload_n E dL_isStep_599 rfl rfl ?_
    refine V.bipush (v := nI (18)) E dL_isStep_600 (by decide) ?_
    refine V.callV (C := RX4) E (o_count G a1 h1 q1 g_585 18 (h.q) (by decide)) (bl [obW G a2 h2 q2 j2, slB G q2]) [] 0 4 rfl rfl rfl gL_isStep_X4_count rfl ⟨rfl, hd_X4_count⟩ ⟨⟨Nat.le_of_ble_eq_true rfl, Nat.le_of_ble_eq_true rfl⟩, Nat.le_of_ble_eq_true rfl, Nat.le_of_ble_eq_true rfl⟩ rfl (Nat.le_of_ble_eq_true rfl) rfl dL_isStep_602 (pBs (n := 4) [obW G a1 h1 q1 g_585, obW G a2 h2 q2 j2, slB G q1, slB G q2] [0, 2] [1, 3] rfl (by decide)) (kc' := 0) (ks' := 0) rfl rfl (rxI (ws' := fun (g_602 : OJ) => (bl [obW G a1 h1 q1 g_602, obW G a2 h2 q2 j2, slB G q1, slB G q2])) (fun g_602 => (pBs (n := 4) [obW G a1 h1 q1 g_602, obW G a2 h2 q2 j2, slB G q1, slB G q2] [0, 2] [1, 3] rfl (by decide)).symm) (fun g_602 hf_602 => ?_))
    refine V.istore (lv' := [some (.ref (a1 0 0)), some (.ref (a2 0 0)), some (.int (x_)), some (.int (y_)), some (.int (z_)), some (.int (nI (p_))), some (.int (nI (bN fr))), some (.int (nI (c))), some (.int (nI (bN true))), some (.int (nI (cnN (oX q1) (oL q1) (oN q1) 18))), none, none, none, none]) E dL_isStep_605 (Nat.le_of_ble_eq_true rfl) rfl rfl ?_
    refine V.aload_n E dL_isStep_607 rfl rfl ?_
    refine V.iload E dL_isStep_608 rfl ?_
    refine V.iload E dL_isStep_610 rfl ?_
    refine V.callV (C := RX4) E (o_mark G a1 h1 q1 g_602 p_ true (h.q) (hp)) (bl [obW G a2 h2 q2 j2, slB G q2]) [] 0 4 rfl rfl rfl gL_isStep_X4_mark rfl ⟨rfl, hd_X4_mark⟩ ⟨⟨Nat.le_of_ble_eq_true rfl, Nat.le_of_ble_eq_true rfl⟩, Nat.le_of_ble_eq_true rfl, Nat.le_of_ble_eq_true rfl⟩ rfl (Nat.le_of_ble_eq_true rfl) rfl dL_isStep_612 (pBs (n := 4) [obW G a1 h1 q1 g_602, obW G a2 h2 q2 j2, slB G q1, slB G q2] [0, 2] [1, 3] rfl (by decide)) (kc' := 0) (ks' := 0) rfl rfl (rxI (ws' := fun (g_612 : OJ) => (bl [obW G a1 h1 (qMrk q1 p_ true) g_612, obW G a2 h2 q2 j2, slB G (qMrk q1 p_ true), slB G q2])) (fun g_612 => (pBs (n := 4) [obW G a1 h1 (qMrk q1 p_ true) g_612, obW G a2 h2 q2 j2, slB G (qMrk q1 p_ true), slB G q2] [0, 2] [1, 3] rfl (by decide)).symm) (fun g_612 hf_612 => ?_))
    refine V.iload E dL_isStep_615 rfl ?_
    refine V.iload E dL_isStep_617 rfl ?_
    refine V.if_eqB (tgt := 626) E dL_isStep_619 (by decide) (fun q_619 => ?_) (fun q_619 => ?_)
    · exact absurd q_619 (by decide)
    · refine V.iconst (v := nI (1)) E dL_isStep_622 (by decide) ?_
      refine V.goto (tgt := 627) E dL_isStep_623 (by decide) ?_
      refine V.iaddN E  dL_isStep_627 ?_
      refine V.icmp_ne (tgt := 689) E dL_isStep_628 (by decide) (fun q_628 => ?_) (fun q_628 => ?_)
      · exact absurd (mrk_t h.q hp hg_) q_628
      · refine V.aload_n E dL_isStep_631 rfl rfl ?_
        refine V.iload E dL_isStep_632 rfl ?_
        refine V.callS E (c_L_there G p_ (hp)) (bl [obW G a1 h1 (qMrk q1 p_ true) g_612, obW G a2 h2 q2 j2, slB G (qMrk q1 p_ true), slB G q2]) [.ref (a2 0 0)] gL_isStep_L_there rfl hd_L_there ⟨⟨Nat.le_of_ble_eq_true rfl, Nat.le_of_ble_eq_true rfl⟩, Nat.le_of_ble_eq_true rfl, Nat.le_of_ble_eq_true rfl⟩ rfl (Nat.le_of_ble_eq_true rfl) rfl dL_isStep_634 (List.Perm.refl _) (kc' := 0) (ks' := 0) rfl rfl (rwI (ws' := (bl [obW G a1 h1 (qMrk q1 p_ true) g_612, obW G a2 h2 q2 j2, slB G (qMrk q1 p_ true), slB G q2])) (List.Perm.refl _) ?_)
        refine V.iload E dL_isStep_637 rfl ?_
        refine V.callV (C := RX4) E (o_mark G a2 h2 q2 j2 (mP p_) true (h.r) (mP_lt hp)) (bl [obW G a1 h1 (qMrk q1 p_ true) g_612, slB G (qMrk q1 p_ true)]) [] 66 4 rfl rfl rfl gL_isStep_X4_mark rfl ⟨rfl, hd_X4_mark⟩ ⟨⟨Nat.le_of_ble_eq_true rfl, Nat.le_of_ble_eq_true rfl⟩, Nat.le_of_ble_eq_true rfl, Nat.le_of_ble_eq_true rfl⟩ rfl (Nat.le_of_ble_eq_true rfl) rfl dL_isStep_639 (pBs (n := 4) [obW G a1 h1 (qMrk q1 p_ true) g_612, obW G a2 h2 q2 j2, slB G (qMrk q1 p_ true), slB G q2] [1, 3] [0, 2] rfl (by decide)) (kc' := 0) (ks' := 0) rfl rfl (rxI (ws' := fun (g_639 : OJ) => (bl [obW G a1 h1 (qMrk q1 p_ true) g_612, obW G a2 h2 (qMrk q2 (mP p_) true) g_639, slB G (qMrk q1 p_ true), slB G (qMrk q2 (mP p_) true)])) (fun g_639 => (pBs (n := 4) [obW G a1 h1 (qMrk q1 p_ true) g_612, obW G a2 h2 (qMrk q2 (mP p_) true) g_639, slB G (qMrk q1 p_ true), slB G (qMrk q2 (mP p_) true)] [1, 3] [0, 2] rfl (by decide)).symm) (fun g_639 hf_639 => ?_))
        refine V.aload_n E dL_isStep_642 rfl rfl ?_
        refine V.bipush (v := nI (18)) E dL_isStep_643 (by decide) ?_
        refine V.callV (C := RX4) E (o_count G a1 h1 (qMrk q1 p_ true) g_612 18 ((h.mark p_ true).q) (by decide)) (bl [obW G a2 h2 (qMrk q2 (mP p_) true) g_639, slB G (qMrk q2 (mP p_) true)]) [.int (aMrk q2 (mP p_) true)] 0 4 rfl rfl rfl gL_isStep_X4_count rfl ⟨rfl, hd_X4_count⟩ ⟨⟨Nat.le_of_ble_eq_true rfl, Nat.le_of_ble_eq_true rfl⟩, Nat.le_of_ble_eq_true rfl, Nat.le_of_ble_eq_true rfl⟩ rfl (Nat.le_of_ble_eq_true rfl) rfl dL_isStep_645 (pBs (n := 4) [obW G a1 h1 (qMrk q1 p_ true) g_612, obW G a2 h2 (qMrk q2 (mP p_) true) g_639, slB G (qMrk q1 p_ true), slB G (qMrk q2 (mP p_) true)] [0, 2] [1, 3] rfl (by decide)) (kc' := 0) (ks' := 0) rfl rfl (rxI (ws' := fun (g_645 : OJ) => (bl [obW G a1 h1 (qMrk q1 p_ true) g_645, obW G a2 h2 (qMrk q2 (mP p_) true) g_639, slB G (qMrk q1 p_ true), slB G (qMrk q2 (mP p_) true)])) (fun g_645 => (pBs (n := 4) [obW G a1 h1 (qMrk q1 p_ true) g_645, obW G a2 h2 (qMrk q2 (mP p_) true) g_639, slB G (qMrk q1 p_ true), slB G (qMrk q2 (mP p_) true)] [0, 2] [1, 3] rfl (by decide)).symm) (fun g_645 hf_645 => ?_))
        refine V.icmp_ne (tgt := 689) E dL_isStep_648 (by decide) (fun q_648 => ?_) (fun q_648 => ?_)
        · exact absurd ((h.amark p_ true).trans (mrk_c hg_)) q_648
        · refine V.aload_n E dL_isStep_651 rfl rfl ?_
          refine V.iload E dL_isStep_652 rfl ?_
          refine V.iload E dL_isStep_654 rfl ?_
          refine V.callV (C := RX4) E (o_mark G a1 h1 (qMrk q1 p_ true) g_645 p_ true ((h.mark p_ true).q) (hp)) (bl [obW G a2 h2 (qMrk q2 (mP p_) true) g_639, slB G (qMrk q2 (mP p_) true)]) [] 0 4 rfl rfl rfl gL_isStep_X4_mark rfl ⟨rfl, hd_X4_mark⟩ ⟨⟨Nat.le_of_ble_eq_true rfl, Nat.le_of_ble_eq_true rfl⟩, Nat.le_of_ble_eq_true rfl, Nat.le_of_ble_eq_true rfl⟩ rfl (Nat.le_of_ble_eq_true rfl) rfl dL_isStep_656 (pBs (n := 4) [obW G a1 h1 (qMrk q1 p_ true) g_645, obW G a2 h2 (qMrk q2 (mP p_) true) g_639, slB G (qMrk q1 p_ true), slB G (qMrk q2 (mP p_) true)] [0, 2] [1, 3] rfl (by decide)) (kc' := 0) (ks' := 0) rfl rfl (rxI (ws' := fun (g_656 : OJ) => (bl [obW G a1 h1 (qMrk (qMrk q1 p_ true) p_ true) g_656, obW G a2 h2 (qMrk q2 (mP p_) true) g_639, slB G (qMrk (qMrk q1 p_ true) p_ true), slB G (qMrk q2 (mP p_) true)])) (fun g_656 => (pBs (n := 4) [obW G a1 h1 (qMrk (qMrk q1 p_ true) p_ true) g_656, obW G a2 h2 (qMrk q2 (mP p_) true) g_639, slB G (qMrk (qMrk q1 p_ true) p_ true), slB G (qMrk q2 (mP p_) true)] [0, 2] [1, 3] rfl (by decide)).symm) (fun g_656 hf_656 => ?_))
          refine V.bipush (v := (-5 : Int32)) E dL_isStep_659 (by decide) ?_
          refine V.icmp_ne (tgt := 689) E dL_isStep_661 (by decide) (fun q_661 => ?_) (fun q_661 => ?_)
          · exact absurd (mrk_a q1 p_ true) q_661
          · refine V.aload_n E dL_isStep_664 rfl rfl ?_
            refine V.iload E dL_isStep_665 rfl ?_
            refine V.iconst (v := nI (5)) E dL_isStep_667 (by decide) ?_
            refine V.callV (C := RX4) E (o_pixel G a1 h1 (qMrk (qMrk q1 p_ true) p_ true) g_656 p_ 5 ((h.mark2 p_ true).q) (hp) (by decide)) (bl [obW G a2 h2 (qMrk q2 (mP p_) true) g_639, slB G (qMrk q2 (mP p_) true)]) [] 0 4 rfl rfl rfl gL_isStep_X4_pixel rfl ⟨rfl, hd_X4_pixel⟩ ⟨⟨Nat.le_of_ble_eq_true rfl, Nat.le_of_ble_eq_true rfl⟩, Nat.le_of_ble_eq_true rfl, Nat.le_of_ble_eq_true rfl⟩ rfl (Nat.le_of_ble_eq_true rfl) rfl dL_isStep_668 (pBs (n := 4) [obW G a1 h1 (qMrk (qMrk q1 p_ true) p_ true) g_656, obW G a2 h2 (qMrk q2 (mP p_) true) g_639, slB G (qMrk (qMrk q1 p_ true) p_ true), slB G (qMrk q2 (mP p_) true)] [0, 2] [1, 3] rfl (by decide)) (kc' := 0) (ks' := 0) rfl rfl (rxI (ws' := fun (g_668 : OJ) => (bl [obW G a1 h1 (qMrk (qMrk q1 p_ true) p_ true) g_668, obW G a2 h2 (qMrk q2 (mP p_) true) g_639, slB G (qMrk (qMrk q1 p_ true) p_ true), slB G (qMrk q2 (mP p_) true)])) (fun g_668 => (pBs (n := 4) [obW G a1 h1 (qMrk (qMrk q1 p_ true) p_ true) g_668, obW G a2 h2 (qMrk q2 (mP p_) true) g_639, slB G (qMrk (qMrk q1 p_ true) p_ true), slB G (qMrk q2 (mP p_) true)] [0, 2] [1, 3] rfl (by decide)).symm) (fun g_668 hf_668 => ?_))
            refine V.iconst (v := nI (4)) E dL_isStep_671 (by decide) ?_
            refine V.icmp_neN (tgt := 679) E (Nat.lt_of_le_of_lt (kndF_le _ _) (by decide)) (by decide) dL_isStep_672 (by decide) (fun q_672 => ?_) (fun q_672 => ?_)
            · exact absurd ((knd4 _ p_).mpr (by rw [mrk_q]; exact mrk_s q1 p_ true)) q_672
            · refine V.iconst (v := nI (1)) E dL_isStep_675 (by decide) ?_
              refine V.goto (tgt := 680) E dL_isStep_676 (by decide) ?_
              refine V.iload E dL_isStep_680 rfl ?_
              refine V.icmp_ne (tgt := 689) E dL_isStep_682 (by decide) (fun q_682 => ?_) (fun q_682 => ?_)
              · exact absurd rfl q_682
              · refine V.iconst (v := nI (1)) E dL_isStep_685 (by decide) ?_
                refine V.goto (tgt := 690) E dL_isStep_686 (by decide) ?_
                refine V.widen (k := 10) (n := 310) (Nat.le_of_ble_eq_true rfl) (Nat.le_of_ble_eq_true rfl) ?_
                exact hend _ _ _ _ dL_isStep_690 (nrB true) ⟨(qMrk (qMrk q1 p_ true) p_ true, g_668, qMrk q2 (mP p_) true, g_639), rfl, rfl, h.mark2 p_ true⟩
set_option maxRecDepth 100000 in
set_option maxHeartbeats 8000000 in
theorem st_691 {G : VC} {A : Nat → Prop} {X : VX} (E : Ev G A X cL_isStep RL wsL_isStep 14) {a1 h1 a2 h2 : AD} (hend : HES G A X a1 h1 a2 h2) {q1 q2 : OQ} (j1 j2 : OJ) (h : Rel q1 q2) (x_ y_ z_ : Int32) {p_ : Nat} (hp : p_ < 48) (fr : Bool) {c : Nat} (hc : c < 4096) : V G A X rm_o_isStep (bl [obW G a1 h1 q1 j1, obW G a2 h2 q2 j2, slB G q1, slB G q2]) 0 0 691 [some (.ref (a1 0 0)), some (.ref (a2 0 0)), some (.int (x_)), some (.int (y_)), some (.int (z_)), some (.int (nI (p_))), some (.int (nI (bN fr))), some (.int (nI (c))), none, none, none, none, none, none] [] := by
  refine V.iload_n E dL_isStep_691 rfl rfl ?_
  refine V.iconst (v := nI (4)) E dL_isStep_692 (by decide) ?_
  refine V.callS E (c_L_up G y_ 4 (by decide) (by decide)) (bl [obW G a1 h1 q1 j1, obW G a2 h2 q2 j2, slB G q1, slB G q2]) [] gL_isStep_L_up rfl hd_L_up ⟨⟨Nat.le_of_ble_eq_true rfl, Nat.le_of_ble_eq_true rfl⟩, Nat.le_of_ble_eq_true rfl, Nat.le_of_ble_eq_true rfl⟩ rfl (Nat.le_of_ble_eq_true rfl) rfl dL_isStep_693 (List.Perm.refl _) (kc' := 0) (ks' := 0) rfl rfl (rwI (ws' := (bl [obW G a1 h1 q1 j1, obW G a2 h2 q2 j2, slB G q1, slB G q2])) (List.Perm.refl _) ?_)
  refine V.if_leN (tgt := 701) E (Nat.lt_trans (upv_lt _ (by decide)) (by decide)) dL_isStep_696 (by decide) (fun q_696 => ?_) (fun q_696 => ?_)
  · refine V.aload_n E dL_isStep_701 rfl rfl ?_
    refine V.iconst (v := nI (0)) E dL_isStep_702 (by decide) ?_
    refine V.bipush (v := nI (9)) E dL_isStep_703 (by decide) ?_
    refine V.callV (C := RX4) E (o_pixel G a1 h1 q1 j1 0 9 (h.q) (by decide) (by decide)) (bl [obW G a2 h2 q2 j2, slB G q2]) [] 0 4 rfl rfl rfl gL_isStep_X4_pixel rfl ⟨rfl, hd_X4_pixel⟩ ⟨⟨Nat.le_of_ble_eq_true rfl, Nat.le_of_ble_eq_true rfl⟩, Nat.le_of_ble_eq_true rfl, Nat.le_of_ble_eq_true rfl⟩ rfl (Nat.le_of_ble_eq_true rfl) rfl dL_isStep_705 (pBs (n := 4) [obW G a1 h1 q1 j1, obW G a2 h2 q2 j2, slB G q1, slB G q2] [0, 2] [1, 3] rfl (by decide)) (kc' := 0) (ks' := 0) rfl rfl (rxI (ws' := fun (g_705 : OJ) => (bl [obW G a1 h1 q1 g_705, obW G a2 h2 q2 j2, slB G q1, slB G q2])) (fun g_705 => (pBs (n := 4) [obW G a1 h1 q1 g_705, obW G a2 h2 q2 j2, slB G q1, slB G q2] [0, 2] [1, 3] rfl (by decide)).symm) (fun g_705 hf_705 => ?_))
    refine V.istore (lv' := [some (.ref (a1 0 0)), some (.ref (a2 0 0)), some (.int (x_)), some (.int (y_)), some (.int (z_)), some (.int (nI (p_))), some (.int (nI (bN fr))), some (.int (nI (c))), some (.int (nI (pxN (oX q1) 0 9))), none, none, none, none, none]) E dL_isStep_708 (Nat.le_of_ble_eq_true rfl) rfl rfl ?_
    refine V.aload_n E dL_isStep_710 rfl rfl ?_
    refine V.bipush (v := nI (47)) E dL_isStep_711 (by decide) ?_
    refine V.bipush (v := nI (9)) E dL_isStep_713 (by decide) ?_
    refine V.callV (C := RX4) E (o_pixel G a1 h1 q1 g_705 47 9 (h.q) (by decide) (by decide)) (bl [obW G a2 h2 q2 j2, slB G q2]) [] 0 4 rfl rfl rfl gL_isStep_X4_pixel rfl ⟨rfl, hd_X4_pixel⟩ ⟨⟨Nat.le_of_ble_eq_true rfl, Nat.le_of_ble_eq_true rfl⟩, Nat.le_of_ble_eq_true rfl, Nat.le_of_ble_eq_true rfl⟩ rfl (Nat.le_of_ble_eq_true rfl) rfl dL_isStep_715 (pBs (n := 4) [obW G a1 h1 q1 g_705, obW G a2 h2 q2 j2, slB G q1, slB G q2] [0, 2] [1, 3] rfl (by decide)) (kc' := 0) (ks' := 0) rfl rfl (rxI (ws' := fun (g_715 : OJ) => (bl [obW G a1 h1 q1 g_715, obW G a2 h2 q2 j2, slB G q1, slB G q2])) (fun g_715 => (pBs (n := 4) [obW G a1 h1 q1 g_715, obW G a2 h2 q2 j2, slB G q1, slB G q2] [0, 2] [1, 3] rfl (by decide)).symm) (fun g_715 hf_715 => ?_))
    refine V.istore (lv' := [some (.ref (a1 0 0)), some (.ref (a2 0 0)), some (.int (x_)), some (.int (y_)), some (.int (z_)), some (.int (nI (p_))), some (.int (nI (bN fr))), some (.int (nI (c))), some (.int (nI (pxN (oX q1) 0 9))), some (.int (nI (pxN (oX q1) 47 9))), none, none, none, none]) E dL_isStep_718 (Nat.le_of_ble_eq_true rfl) rfl rfl ?_
    refine V.aload_n E dL_isStep_720 rfl rfl ?_
    refine V.bipush (v := nI (17)) E dL_isStep_721 (by decide) ?_
    refine V.callV (C := RX4) E (o_count G a1 h1 q1 g_715 17 (h.q) (by decide)) (bl [obW G a2 h2 q2 j2, slB G q2]) [] 0 4 rfl rfl rfl gL_isStep_X4_count rfl ⟨rfl, hd_X4_count⟩ ⟨⟨Nat.le_of_ble_eq_true rfl, Nat.le_of_ble_eq_true rfl⟩, Nat.le_of_ble_eq_true rfl, Nat.le_of_ble_eq_true rfl⟩ rfl (Nat.le_of_ble_eq_true rfl) rfl dL_isStep_723 (pBs (n := 4) [obW G a1 h1 q1 g_715, obW G a2 h2 q2 j2, slB G q1, slB G q2] [0, 2] [1, 3] rfl (by decide)) (kc' := 0) (ks' := 0) rfl rfl (rxI (ws' := fun (g_723 : OJ) => (bl [obW G a1 h1 q1 g_723, obW G a2 h2 q2 j2, slB G q1, slB G q2])) (fun g_723 => (pBs (n := 4) [obW G a1 h1 q1 g_723, obW G a2 h2 q2 j2, slB G q1, slB G q2] [0, 2] [1, 3] rfl (by decide)).symm) (fun g_723 hf_723 => ?_))
    refine V.istore (lv' := [some (.ref (a1 0 0)), some (.ref (a2 0 0)), some (.int (x_)), some (.int (y_)), some (.int (z_)), some (.int (nI (p_))), some (.int (nI (bN fr))), some (.int (nI (c))), some (.int (nI (pxN (oX q1) 0 9))), some (.int (nI (pxN (oX q1) 47 9))), some (.int (nI (cnN (oX q1) (oL q1) (oN q1) 17))), none, none, none]) E dL_isStep_726 (Nat.le_of_ble_eq_true rfl) rfl rfl ?_
    refine V.aload_n E dL_isStep_728 rfl rfl ?_
    refine V.callV (C := RX4) E (o_keep G a1 h1 q1 g_723 (h.q)) (bl [obW G a2 h2 q2 j2, slB G q2]) [] 0 4 rfl rfl rfl gL_isStep_X4_keep rfl ⟨rfl, hd_X4_keep⟩ ⟨⟨Nat.le_of_ble_eq_true rfl, Nat.le_of_ble_eq_true rfl⟩, Nat.le_of_ble_eq_true rfl, Nat.le_of_ble_eq_true rfl⟩ rfl (Nat.le_of_ble_eq_true rfl) rfl dL_isStep_729 (pBs (n := 4) [obW G a1 h1 q1 g_723, obW G a2 h2 q2 j2, slB G q1, slB G q2] [0, 2] [1, 3] rfl (by decide)) (kc' := 0) (ks' := 0) rfl rfl (rxI (ws' := fun (g_729 : OJ) => (bl [obW G a1 h1 (qKep q1) g_729, obW G a2 h2 q2 j2, slB G (qKep q1), slB G q2])) (fun g_729 => (pBs (n := 4) [obW G a1 h1 (qKep q1) g_729, obW G a2 h2 q2 j2, slB G (qKep q1), slB G q2] [0, 2] [1, 3] rfl (by decide)).symm) (fun g_729 hf_729 => ?_))
    refine V.istore (lv' := [some (.ref (a1 0 0)), some (.ref (a2 0 0)), some (.int (x_)), some (.int (y_)), some (.int (z_)), some (.int (nI (p_))), some (.int (nI (bN fr))), some (.int (nI (c))), some (.int (nI (pxN (oX q1) 0 9))), some (.int (nI (pxN (oX q1) 47 9))), some (.int (nI (cnN (oX q1) (oL q1) (oN q1) 17))), some (.int (nI (sumN 48 (fun g_723 => bN (!decide (scF (oX q1) g_723 = cmpF (oX q1) g_723)))))), none, none]) E dL_isStep_732 (Nat.le_of_ble_eq_true rfl) rfl rfl ?_
    refine V.iload E dL_isStep_734 rfl ?_
    refine V.aload_n E dL_isStep_736 rfl rfl ?_
    refine V.callV (C := RX4) E (o_keep G a2 h2 q2 j2 (h.r)) (bl [obW G a1 h1 (qKep q1) g_729, slB G (qKep q1)]) [.int (nI (sumN 48 (fun g_723 => bN (!decide (scF (oX q1) g_723 = cmpF (oX q1) g_723)))))] 66 4 rfl rfl rfl gL_isStep_X4_keep rfl ⟨rfl, hd_X4_keep⟩ ⟨⟨Nat.le_of_ble_eq_true rfl, Nat.le_of_ble_eq_true rfl⟩, Nat.le_of_ble_eq_true rfl, Nat.le_of_ble_eq_true rfl⟩ rfl (Nat.le_of_ble_eq_true rfl) rfl dL_isStep_737 (pBs (n := 4) [obW G a1 h1 (qKep q1) g_729, obW G a2 h2 q2 j2, slB G (qKep q1), slB G q2] [1, 3] [0, 2] rfl (by decide)) (kc' := 0) (ks' := 0) rfl rfl (rxI (ws' := fun (g_737 : OJ) => (bl [obW G a1 h1 (qKep q1) g_729, obW G a2 h2 (qKep q2) g_737, slB G (qKep q1), slB G (qKep q2)])) (fun g_737 => (pBs (n := 4) [obW G a1 h1 (qKep q1) g_729, obW G a2 h2 (qKep q2) g_737, slB G (qKep q1), slB G (qKep q2)] [1, 3] [0, 2] rfl (by decide)).symm) (fun g_737 hf_737 => ?_))
    refine V.icmp_ne (tgt := 789) E dL_isStep_740 (by decide) (fun q_740 => ?_) (fun q_740 => ?_)
    · exact absurd (congrArg nI h.akeep.symm) q_740
    · refine V.iload E dL_isStep_743 rfl ?_
      refine V.bipush (v := nI (48)) E dL_isStep_745 (by decide) ?_
      refine V.iload E dL_isStep_747 rfl ?_
      refine V.isubN E (cn_le 17 (by decide) (by decide) (by decide) _ _) dL_isStep_749 ?_
      refine V.icmp_ne (tgt := 789) E dL_isStep_750 (by decide) (fun q_750 => ?_) (fun q_750 => ?_)
      · exact absurd (congrArg nI (kp_n (oX q1) _ _)) q_750
      · refine V.aload_n E dL_isStep_753 rfl rfl ?_
        refine V.bipush (v := nI (18)) E dL_isStep_754 (by decide) ?_
        refine V.callV (C := RX4) E (o_count G a1 h1 (qKep q1) g_729 18 (h.keep.q) (by decide)) (bl [obW G a2 h2 (qKep q2) g_737, slB G (qKep q2)]) [] 0 4 rfl rfl rfl gL_isStep_X4_count rfl ⟨rfl, hd_X4_count⟩ ⟨⟨Nat.le_of_ble_eq_true rfl, Nat.le_of_ble_eq_true rfl⟩, Nat.le_of_ble_eq_true rfl, Nat.le_of_ble_eq_true rfl⟩ rfl (Nat.le_of_ble_eq_true rfl) rfl dL_isStep_756 (pBs (n := 4) [obW G a1 h1 (qKep q1) g_729, obW G a2 h2 (qKep q2) g_737, slB G (qKep q1), slB G (qKep q2)] [0, 2] [1, 3] rfl (by decide)) (kc' := 0) (ks' := 0) rfl rfl (rxI (ws' := fun (g_756 : OJ) => (bl [obW G a1 h1 (qKep q1) g_756, obW G a2 h2 (qKep q2) g_737, slB G (qKep q1), slB G (qKep q2)])) (fun g_756 => (pBs (n := 4) [obW G a1 h1 (qKep q1) g_756, obW G a2 h2 (qKep q2) g_737, slB G (qKep q1), slB G (qKep q2)] [0, 2] [1, 3] rfl (by decide)).symm) (fun g_756 hf_756 => ?_))
        refine V.if_neN (tgt := 789) E ((by rw [kp_18]; decide)) dL_isStep_759 (by decide) (fun q_759 => ?_) (fun q_759 => ?_)
        · exact absurd (kp_18 q1 _ _) q_759
        · refine V.aload_n E dL_isStep_762 rfl rfl ?_
          refine V.iconst (v := nI (0)) E dL_isStep_763 (by decide) ?_
          refine V.iconst (v := nI (0)) E dL_isStep_764 (by decide) ?_
          refine V.callV (C := RX4) E (o_pixel G a1 h1 (qKep q1) g_756 0 0 (h.keep.q) (by decide) (by decide)) (bl [obW G a2 h2 (qKep q2) g_737, slB G (qKep q2)]) [] 0 4 rfl rfl rfl gL_isStep_X4_pixel rfl ⟨rfl, hd_X4_pixel⟩ ⟨⟨Nat.le_of_ble_eq_true rfl, Nat.le_of_ble_eq_true rfl⟩, Nat.le_of_ble_eq_true rfl, Nat.le_of_ble_eq_true rfl⟩ rfl (Nat.le_of_ble_eq_true rfl) rfl dL_isStep_765 (pBs (n := 4) [obW G a1 h1 (qKep q1) g_756, obW G a2 h2 (qKep q2) g_737, slB G (qKep q1), slB G (qKep q2)] [0, 2] [1, 3] rfl (by decide)) (kc' := 0) (ks' := 0) rfl rfl (rxI (ws' := fun (g_765 : OJ) => (bl [obW G a1 h1 (qKep q1) g_765, obW G a2 h2 (qKep q2) g_737, slB G (qKep q1), slB G (qKep q2)])) (fun g_765 => (pBs (n := 4) [obW G a1 h1 (qKep q1) g_765, obW G a2 h2 (qKep q2) g_737, slB G (qKep q1), slB G (qKep q2)] [0, 2] [1, 3] rfl (by decide)).symm) (fun g_765 hf_765 => ?_))
          refine V.iload E dL_isStep_768 rfl ?_
          refine V.icmp_ne (tgt := 789) E dL_isStep_770 (by decide) (fun q_770 => ?_) (fun q_770 => ?_)
          · exact absurd rfl q_770
          · refine V.aload_n E dL_isStep_773 rfl rfl ?_
            refine V.bipush (v := nI (47)) E dL_isStep_774 (by decide) ?_
            refine V.iconst (v := nI (0)) E dL_isStep_776 (by decide) ?_
            refine V.callV (C := RX4) E (o_pixel G a1 h1 (qKep q1) g_765 47 0 (h.keep.q) (by decide) (by decide)) (bl [obW G a2 h2 (qKep q2) g_737, slB G (qKep q2)]) [] 0 4 rfl rfl rfl gL_isStep_X4_pixel rfl ⟨rfl, hd_X4_pixel⟩ ⟨⟨Nat.le_of_ble_eq_true rfl, Nat.le_of_ble_eq_true rfl⟩, Nat.le_of_ble_eq_true rfl, Nat.le_of_ble_eq_true rfl⟩ rfl (Nat.le_of_ble_eq_true rfl) rfl dL_isStep_777 (pBs (n := 4) [obW G a1 h1 (qKep q1) g_765, obW G a2 h2 (qKep q2) g_737, slB G (qKep q1), slB G (qKep q2)] [0, 2] [1, 3] rfl (by decide)) (kc' := 0) (ks' := 0) rfl rfl (rxI (ws' := fun (g_777 : OJ) => (bl [obW G a1 h1 (qKep q1) g_777, obW G a2 h2 (qKep q2) g_737, slB G (qKep q1), slB G (qKep q2)])) (fun g_777 => (pBs (n := 4) [obW G a1 h1 (qKep q1) g_777, obW G a2 h2 (qKep q2) g_737, slB G (qKep q1), slB G (qKep q2)] [0, 2] [1, 3] rfl (by decide)).symm) (fun g_777 hf_777 => ?_))
            refine V.iload E dL_isStep_780 rfl ?_
            refine V.icmp_ne (tgt := 789) E dL_isStep_782 (by decide) (fun q_782 => ?_) (fun q_782 => ?_)
            · exact absurd rfl q_782
            · refine V.iconst (v := nI (1)) E dL_isStep_785 (by decide) ?_
              refine V.goto (tgt := 790) E dL_isStep_786 (by decide) ?_
              refine V.widen (k := 10) (n := 310) (Nat.le_of_ble_eq_true rfl) (Nat.le_of_ble_eq_true rfl) ?_
              exact hend _ _ _ _ dL_isStep_790 (nrB true) ⟨(qKep q1, g_777, qKep q2, g_737), rfl, rfl, h.keep⟩
  · refine V.iconst (v := nI (1)) E dL_isStep_699 (by decide) ?_
    refine V.widen (k := 10) (n := 310) (Nat.le_of_ble_eq_true rfl) (Nat.le_of_ble_eq_true rfl) ?_
    exact hend _ _ _ _ dL_isStep_700 (nrB true) ⟨(q1, j1, q2, j2), rfl, rfl, h⟩
set_option maxRecDepth 100000 in
set_option maxHeartbeats 8000000 in
theorem st_791 {G : VC} {A : Nat → Prop} {X : VX} (E : Ev G A X cL_isStep RL wsL_isStep 14) {a1 h1 a2 h2 : AD} (hend : HES G A X a1 h1 a2 h2) {q1 q2 : OQ} (j1 j2 : OJ) (h : Rel q1 q2) (x_ y_ z_ : Int32) {p_ : Nat} (hp : p_ < 48) (fr : Bool) {c : Nat} (hc : c < 4096) : V G A X rm_o_isStep (bl [obW G a1 h1 q1 j1, obW G a2 h2 q2 j2, slB G q1, slB G q2]) 0 0 791 [some (.ref (a1 0 0)), some (.ref (a2 0 0)), some (.int (x_)), some (.int (y_)), some (.int (z_)), some (.int (nI (p_))), some (.int (nI (bN fr))), some (.int (nI (c))), none, none, none, none, none, none] [] := by
  refine V.aload_n E dL_isStep_791 rfl rfl ?_
  refine V.aload_n E dL_isStep_792 rfl rfl ?_
  refine V.iload E dL_isStep_793 rfl ?_
  refine V.iload E dL_isStep_795 rfl ?_
  refine V.iconst (v := nI (3)) E dL_isStep_797 (by decide) ?_
  refine V.ishr E dL_isStep_798 ?_
  refine V.bipush (v := nI (6)) E dL_isStep_799 (by decide) ?_
  refine V.callS E (c_L_up G ((z_) >>> ((nI (3)) &&& 31)) 6 (by decide) (by decide)) (bl [obW G a1 h1 q1 j1, obW G a2 h2 q2 j2, slB G q1, slB G q2]) [.int (nI (bN fr)), .ref (a2 0 0), .ref (a1 0 0)] gL_isStep_L_up rfl hd_L_up ⟨⟨Nat.le_of_ble_eq_true rfl, Nat.le_of_ble_eq_true rfl⟩, Nat.le_of_ble_eq_true rfl, Nat.le_of_ble_eq_true rfl⟩ rfl (Nat.le_of_ble_eq_true rfl) rfl dL_isStep_801 (List.Perm.refl _) (kc' := 0) (ks' := 0) rfl rfl (rwI (ws' := (bl [obW G a1 h1 q1 j1, obW G a2 h2 q2 j2, slB G q1, slB G q2])) (List.Perm.refl _) ?_)
  refine V.nmN (fun w_ ew_ => ?_)
  have hw_ : w_ < 6 := by rw [ew_]; exact upv_lt _ (by decide)
  refine V.iload_n E dL_isStep_804 rfl rfl ?_
  refine V.iload E dL_isStep_805 rfl ?_
  refine V.callS E (o_isRead G a1 h1 a2 h2 q1 j1 q2 j2 fr w_ y_ z_ (h) (hw_)) (bl []) [] gL_isStep_L_isRead rfl hd_L_isRead ⟨⟨Nat.le_of_ble_eq_true rfl, Nat.le_of_ble_eq_true rfl⟩, Nat.le_of_ble_eq_true rfl, Nat.le_of_ble_eq_true rfl⟩ rfl (Nat.le_of_ble_eq_true rfl) rfl dL_isStep_807 (pBs (n := 4) [obW G a1 h1 q1 j1, obW G a2 h2 q2 j2, slB G q1, slB G q2] [0, 1, 2, 3] [] rfl (by decide)) (kc' := 0) (ks' := 0) rfl rfl (rxI (ws' := fun (g_807 : OQ × OJ × OQ × OJ) => (bl [obW G a1 h1 g_807.1 g_807.2.1, obW G a2 h2 g_807.2.2.1 g_807.2.2.2, slB G g_807.1, slB G g_807.2.2.1])) (fun g_807 => (pBs (n := 4) [obW G a1 h1 g_807.1 g_807.2.1, obW G a2 h2 g_807.2.2.1 g_807.2.2.2, slB G g_807.1, slB G g_807.2.2.1] [0, 1, 2, 3] [] rfl (by decide)).symm) (fun g_807 hf_807 => ?_))
  refine V.widen (k := 10) (n := 310) (Nat.le_of_ble_eq_true rfl) (Nat.le_of_ble_eq_true rfl) ?_
  exact hend _ _ _ _ dL_isStep_810 (nrB true) ⟨(g_807.1, g_807.2.1, g_807.2.2.1, g_807.2.2.2), rfl, rfl, hf_807⟩
set_option maxRecDepth 100000 in
set_option maxHeartbeats 8000000 in
theorem st_811 {G : VC} {A : Nat → Prop} {X : VX} (E : Ev G A X cL_isStep RL wsL_isStep 14) {a1 h1 a2 h2 : AD} (hend : HES G A X a1 h1 a2 h2) {q1 q2 : OQ} (j1 j2 : OJ) (h : Rel q1 q2) (x_ y_ z_ : Int32) {p_ : Nat} (hp : p_ < 48) (fr : Bool) {c : Nat} (hc : c < 4096) : V G A X rm_o_isStep (bl [obW G a1 h1 q1 j1, obW G a2 h2 q2 j2, slB G q1, slB G q2]) 0 0 811 [some (.ref (a1 0 0)), some (.ref (a2 0 0)), some (.int (x_)), some (.int (y_)), some (.int (z_)), some (.int (nI (p_))), some (.int (nI (bN fr))), some (.int (nI (c))), none, none, none, none, none, none] [] := by
  refine V.aload_n E dL_isStep_811 rfl rfl ?_
  refine V.bipush (v := nI (20)) E dL_isStep_812 (by decide) ?_
  refine V.callV (C := RX4) E (o_count G a1 h1 q1 j1 20 (h.q) (by decide)) (bl [obW G a2 h2 q2 j2, slB G q2]) [] 0 4 rfl rfl rfl gL_isStep_X4_count rfl ⟨rfl, hd_X4_count⟩ ⟨⟨Nat.le_of_ble_eq_true rfl, Nat.le_of_ble_eq_true rfl⟩, Nat.le_of_ble_eq_true rfl, Nat.le_of_ble_eq_true rfl⟩ rfl (Nat.le_of_ble_eq_true rfl) rfl dL_isStep_814 (pBs (n := 4) [obW G a1 h1 q1 j1, obW G a2 h2 q2 j2, slB G q1, slB G q2] [0, 2] [1, 3] rfl (by decide)) (kc' := 0) (ks' := 0) rfl rfl (rxI (ws' := fun (g_814 : OJ) => (bl [obW G a1 h1 q1 g_814, obW G a2 h2 q2 j2, slB G q1, slB G q2])) (fun g_814 => (pBs (n := 4) [obW G a1 h1 q1 g_814, obW G a2 h2 q2 j2, slB G q1, slB G q2] [0, 2] [1, 3] rfl (by decide)).symm) (fun g_814 hf_814 => ?_))
  refine V.if_eqN (tgt := 831) E ((Nat.lt_trans (cnN_b h.q.x h.q.t.1 h.q.n _) (by decide))) dL_isStep_817 (by decide) (fun q_817 => ?_) (fun q_817 => ?_)
  · refine V.iconst (v := nI (1)) E dL_isStep_831 (by decide) ?_
    refine V.goto (tgt := 836) E dL_isStep_832 (by decide) ?_
    refine V.widen (k := 10) (n := 310) (Nat.le_of_ble_eq_true rfl) (Nat.le_of_ble_eq_true rfl) ?_
    exact hend _ _ _ _ dL_isStep_836 (nrB true) ⟨(q1, g_814, q2, j2), rfl, rfl, h⟩
  · refine V.aload_n E dL_isStep_820 rfl rfl ?_
    refine V.callV (C := RX4) E (o_undo G a1 h1 q1 g_814 (h.q)) (bl [obW G a2 h2 q2 j2, slB G q2]) [] 0 4 rfl rfl rfl gL_isStep_X4_undo rfl ⟨rfl, hd_X4_undo⟩ ⟨⟨Nat.le_of_ble_eq_true rfl, Nat.le_of_ble_eq_true rfl⟩, Nat.le_of_ble_eq_true rfl, Nat.le_of_ble_eq_true rfl⟩ rfl (Nat.le_of_ble_eq_true rfl) rfl dL_isStep_821 (pBs (n := 4) [obW G a1 h1 q1 g_814, obW G a2 h2 q2 j2, slB G q1, slB G q2] [0, 2] [1, 3] rfl (by decide)) (kc' := 0) (ks' := 0) rfl rfl (rxI (ws' := fun (g_821 : OJ) => (bl [obW G a1 h1 (qUnd q1) g_821, obW G a2 h2 q2 j2, slB G (qUnd q1), slB G q2])) (fun g_821 => (pBs (n := 4) [obW G a1 h1 (qUnd q1) g_821, obW G a2 h2 q2 j2, slB G (qUnd q1), slB G q2] [0, 2] [1, 3] rfl (by decide)).symm) (fun g_821 hf_821 => ?_))
    refine V.aload_n E dL_isStep_824 rfl rfl ?_
    refine V.callV (C := RX4) E (o_undo G a2 h2 q2 j2 (h.r)) (bl [obW G a1 h1 (qUnd q1) g_821, slB G (qUnd q1)]) [.int (aUnd q1)] 66 4 rfl rfl rfl gL_isStep_X4_undo rfl ⟨rfl, hd_X4_undo⟩ ⟨⟨Nat.le_of_ble_eq_true rfl, Nat.le_of_ble_eq_true rfl⟩, Nat.le_of_ble_eq_true rfl, Nat.le_of_ble_eq_true rfl⟩ rfl (Nat.le_of_ble_eq_true rfl) rfl dL_isStep_825 (pBs (n := 4) [obW G a1 h1 (qUnd q1) g_821, obW G a2 h2 q2 j2, slB G (qUnd q1), slB G q2] [1, 3] [0, 2] rfl (by decide)) (kc' := 0) (ks' := 0) rfl rfl (rxI (ws' := fun (g_825 : OJ) => (bl [obW G a1 h1 (qUnd q1) g_821, obW G a2 h2 (qUnd q2) g_825, slB G (qUnd q1), slB G (qUnd q2)])) (fun g_825 => (pBs (n := 4) [obW G a1 h1 (qUnd q1) g_821, obW G a2 h2 (qUnd q2) g_825, slB G (qUnd q1), slB G (qUnd q2)] [1, 3] [0, 2] rfl (by decide)).symm) (fun g_825 hf_825 => ?_))
    refine V.icmp_ne (tgt := 835) E dL_isStep_828 (by decide) (fun q_828 => ?_) (fun q_828 => ?_)
    · exact absurd h.aund.symm q_828
    · refine V.iconst (v := nI (1)) E dL_isStep_831 (by decide) ?_
      refine V.goto (tgt := 836) E dL_isStep_832 (by decide) ?_
      refine V.widen (k := 10) (n := 310) (Nat.le_of_ble_eq_true rfl) (Nat.le_of_ble_eq_true rfl) ?_
      exact hend _ _ _ _ dL_isStep_836 (nrB true) ⟨(qUnd q1, g_821, qUnd q2, g_825), rfl, rfl, h.und⟩
set_option maxRecDepth 100000 in
set_option maxHeartbeats 8000000 in
theorem st_837 {G : VC} {A : Nat → Prop} {X : VX} (E : Ev G A X cL_isStep RL wsL_isStep 14) {a1 h1 a2 h2 : AD} (hend : HES G A X a1 h1 a2 h2) {q1 q2 : OQ} (j1 j2 : OJ) (h : Rel q1 q2) (x_ y_ z_ : Int32) {p_ : Nat} (hp : p_ < 48) (fr : Bool) {c : Nat} (hc : c < 4096) : V G A X rm_o_isStep (bl [obW G a1 h1 q1 j1, obW G a2 h2 q2 j2, slB G q1, slB G q2]) 0 0 837 [some (.ref (a1 0 0)), some (.ref (a2 0 0)), some (.int (x_)), some (.int (y_)), some (.int (z_)), some (.int (nI (p_))), some (.int (nI (bN fr))), some (.int (nI (c))), none, none, none, none, none, none] [] := by
  refine V.iload_n E dL_isStep_837 rfl rfl ?_
  refine V.iconst (v := nI (2)) E dL_isStep_838 (by decide) ?_
  refine V.callS E (c_L_up G y_ 2 (by decide) (by decide)) (bl [obW G a1 h1 q1 j1, obW G a2 h2 q2 j2, slB G q1, slB G q2]) [] gL_isStep_L_up rfl hd_L_up ⟨⟨Nat.le_of_ble_eq_true rfl, Nat.le_of_ble_eq_true rfl⟩, Nat.le_of_ble_eq_true rfl, Nat.le_of_ble_eq_true rfl⟩ rfl (Nat.le_of_ble_eq_true rfl) rfl dL_isStep_839 (List.Perm.refl _) (kc' := 0) (ks' := 0) rfl rfl (rwI (ws' := (bl [obW G a1 h1 q1 j1, obW G a2 h2 q2 j2, slB G q1, slB G q2])) (List.Perm.refl _) ?_)
  refine V.if_neN (tgt := 876) E (Nat.lt_trans (upv_lt _ (by decide)) (by decide)) dL_isStep_842 (by decide) (fun q_842 => ?_) (fun q_842 => ?_)
  · refine V.aload_n E dL_isStep_876 rfl rfl ?_
    refine V.iload E dL_isStep_877 rfl ?_
    refine V.iconst (v := nI (2)) E dL_isStep_879 (by decide) ?_
    refine V.callS E (c_L_up G z_ 2 (by decide) (by decide)) (bl [obW G a1 h1 q1 j1, obW G a2 h2 q2 j2, slB G q1, slB G q2]) [.ref (a1 0 0)] gL_isStep_L_up rfl hd_L_up ⟨⟨Nat.le_of_ble_eq_true rfl, Nat.le_of_ble_eq_true rfl⟩, Nat.le_of_ble_eq_true rfl, Nat.le_of_ble_eq_true rfl⟩ rfl (Nat.le_of_ble_eq_true rfl) rfl dL_isStep_880 (List.Perm.refl _) (kc' := 0) (ks' := 0) rfl rfl (rwI (ws' := (bl [obW G a1 h1 q1 j1, obW G a2 h2 q2 j2, slB G q1, slB G q2])) (List.Perm.refl _) ?_)
    refine V.nmN (fun s_ es_ => ?_)
    have hs_ : s_ < 2 := by rw [es_]; exact upv_lt _ (by decide)
    rcases (show s_ = 0 ∨ s_ = 1 by omega) with rfl | rfl
    · refine V.callV (C := RX4) E (o_restore_0 G a1 h1 q1 j1 (h.q)) (bl [obW G a2 h2 q2 j2, slB G q2]) [] 0 4 rfl rfl rfl gL_isStep_X4_restore rfl ⟨rfl, hd_X4_restore⟩ ⟨⟨Nat.le_of_ble_eq_true rfl, Nat.le_of_ble_eq_true rfl⟩, Nat.le_of_ble_eq_true rfl, Nat.le_of_ble_eq_true rfl⟩ rfl (Nat.le_of_ble_eq_true rfl) rfl dL_isStep_883 (pBs (n := 4) [obW G a1 h1 q1 j1, obW G a2 h2 q2 j2, slB G q1, slB G q2] [0, 2] [1, 3] rfl (by decide)) (kc' := 0) (ks' := 0) rfl rfl (rxI (ws' := fun (g_883 : OJ) => (bl [obW G a1 h1 (qRes q1 0) g_883, obW G a2 h2 q2 j2, slB G (qRes q1 0), slB G q2])) (fun g_883 => (pBs (n := 4) [obW G a1 h1 (qRes q1 0) g_883, obW G a2 h2 q2 j2, slB G (qRes q1 0), slB G q2] [0, 2] [1, 3] rfl (by decide)).symm) (fun g_883 hf_883 => ?_))
      refine V.aload_n E dL_isStep_886 rfl rfl ?_
      refine V.iload E dL_isStep_887 rfl ?_
      refine V.iconst (v := nI (2)) E dL_isStep_889 (by decide) ?_
      refine V.callS E (c_L_up G z_ 2 (by decide) (by decide)) (bl [obW G a1 h1 (qRes q1 0) g_883, obW G a2 h2 q2 j2, slB G (qRes q1 0), slB G q2]) [.ref (a2 0 0), .int (aRes q1 0)] gL_isStep_L_up rfl hd_L_up ⟨⟨Nat.le_of_ble_eq_true rfl, Nat.le_of_ble_eq_true rfl⟩, Nat.le_of_ble_eq_true rfl, Nat.le_of_ble_eq_true rfl⟩ rfl (Nat.le_of_ble_eq_true rfl) rfl dL_isStep_890 (List.Perm.refl _) (kc' := 0) (ks' := 0) rfl rfl (rwI (ws' := (bl [obW G a1 h1 (qRes q1 0) g_883, obW G a2 h2 q2 j2, slB G (qRes q1 0), slB G q2])) (List.Perm.refl _) ?_)
      refine V.topN (b := 0) (es_.symm) ?_
      refine V.callV (C := RX4) E (o_restore_0 G a2 h2 q2 j2 (h.r)) (bl [obW G a1 h1 (qRes q1 0) g_883, slB G (qRes q1 0)]) [.int (aRes q1 0)] 66 4 rfl rfl rfl gL_isStep_X4_restore rfl ⟨rfl, hd_X4_restore⟩ ⟨⟨Nat.le_of_ble_eq_true rfl, Nat.le_of_ble_eq_true rfl⟩, Nat.le_of_ble_eq_true rfl, Nat.le_of_ble_eq_true rfl⟩ rfl (Nat.le_of_ble_eq_true rfl) rfl dL_isStep_893 (pBs (n := 4) [obW G a1 h1 (qRes q1 0) g_883, obW G a2 h2 q2 j2, slB G (qRes q1 0), slB G q2] [1, 3] [0, 2] rfl (by decide)) (kc' := 0) (ks' := 0) rfl rfl (rxI (ws' := fun (g_893 : OJ) => (bl [obW G a1 h1 (qRes q1 0) g_883, obW G a2 h2 (qRes q2 0) g_893, slB G (qRes q1 0), slB G (qRes q2 0)])) (fun g_893 => (pBs (n := 4) [obW G a1 h1 (qRes q1 0) g_883, obW G a2 h2 (qRes q2 0) g_893, slB G (qRes q1 0), slB G (qRes q2 0)] [1, 3] [0, 2] rfl (by decide)).symm) (fun g_893 hf_893 => ?_))
      refine V.icmp_ne (tgt := 903) E dL_isStep_896 (by decide) (fun q_896 => ?_) (fun q_896 => ?_)
      · exact absurd (h.ares 0).symm q_896
      · refine V.iconst (v := nI (1)) E dL_isStep_899 (by decide) ?_
        refine V.goto (tgt := 904) E dL_isStep_900 (by decide) ?_
        refine V.widen (k := 10) (n := 310) (Nat.le_of_ble_eq_true rfl) (Nat.le_of_ble_eq_true rfl) ?_
        exact hend _ _ _ _ dL_isStep_904 (nrB true) ⟨(qRes q1 0, g_883, qRes q2 0, g_893), rfl, rfl, h.res 0⟩
    · refine V.callV (C := RX4) E (o_restore_1 G a1 h1 q1 j1 (h.q)) (bl [obW G a2 h2 q2 j2, slB G q2]) [] 0 4 rfl rfl rfl gL_isStep_X4_restore rfl ⟨rfl, hd_X4_restore⟩ ⟨⟨Nat.le_of_ble_eq_true rfl, Nat.le_of_ble_eq_true rfl⟩, Nat.le_of_ble_eq_true rfl, Nat.le_of_ble_eq_true rfl⟩ rfl (Nat.le_of_ble_eq_true rfl) rfl dL_isStep_883 (pBs (n := 4) [obW G a1 h1 q1 j1, obW G a2 h2 q2 j2, slB G q1, slB G q2] [0, 2] [1, 3] rfl (by decide)) (kc' := 0) (ks' := 0) rfl rfl (rxI (ws' := fun (g_883 : OJ) => (bl [obW G a1 h1 (qRes q1 1) g_883, obW G a2 h2 q2 j2, slB G (qRes q1 1), slB G q2])) (fun g_883 => (pBs (n := 4) [obW G a1 h1 (qRes q1 1) g_883, obW G a2 h2 q2 j2, slB G (qRes q1 1), slB G q2] [0, 2] [1, 3] rfl (by decide)).symm) (fun g_883 hf_883 => ?_))
      refine V.aload_n E dL_isStep_886 rfl rfl ?_
      refine V.iload E dL_isStep_887 rfl ?_
      refine V.iconst (v := nI (2)) E dL_isStep_889 (by decide) ?_
      refine V.callS E (c_L_up G z_ 2 (by decide) (by decide)) (bl [obW G a1 h1 (qRes q1 1) g_883, obW G a2 h2 q2 j2, slB G (qRes q1 1), slB G q2]) [.ref (a2 0 0), .int (aRes q1 1)] gL_isStep_L_up rfl hd_L_up ⟨⟨Nat.le_of_ble_eq_true rfl, Nat.le_of_ble_eq_true rfl⟩, Nat.le_of_ble_eq_true rfl, Nat.le_of_ble_eq_true rfl⟩ rfl (Nat.le_of_ble_eq_true rfl) rfl dL_isStep_890 (List.Perm.refl _) (kc' := 0) (ks' := 0) rfl rfl (rwI (ws' := (bl [obW G a1 h1 (qRes q1 1) g_883, obW G a2 h2 q2 j2, slB G (qRes q1 1), slB G q2])) (List.Perm.refl _) ?_)
      refine V.topN (b := 1) (es_.symm) ?_
      refine V.callV (C := RX4) E (o_restore_1 G a2 h2 q2 j2 (h.r)) (bl [obW G a1 h1 (qRes q1 1) g_883, slB G (qRes q1 1)]) [.int (aRes q1 1)] 66 4 rfl rfl rfl gL_isStep_X4_restore rfl ⟨rfl, hd_X4_restore⟩ ⟨⟨Nat.le_of_ble_eq_true rfl, Nat.le_of_ble_eq_true rfl⟩, Nat.le_of_ble_eq_true rfl, Nat.le_of_ble_eq_true rfl⟩ rfl (Nat.le_of_ble_eq_true rfl) rfl dL_isStep_893 (pBs (n := 4) [obW G a1 h1 (qRes q1 1) g_883, obW G a2 h2 q2 j2, slB G (qRes q1 1), slB G q2] [1, 3] [0, 2] rfl (by decide)) (kc' := 0) (ks' := 0) rfl rfl (rxI (ws' := fun (g_893 : OJ) => (bl [obW G a1 h1 (qRes q1 1) g_883, obW G a2 h2 (qRes q2 1) g_893, slB G (qRes q1 1), slB G (qRes q2 1)])) (fun g_893 => (pBs (n := 4) [obW G a1 h1 (qRes q1 1) g_883, obW G a2 h2 (qRes q2 1) g_893, slB G (qRes q1 1), slB G (qRes q2 1)] [1, 3] [0, 2] rfl (by decide)).symm) (fun g_893 hf_893 => ?_))
      refine V.icmp_ne (tgt := 903) E dL_isStep_896 (by decide) (fun q_896 => ?_) (fun q_896 => ?_)
      · exact absurd (h.ares 1).symm q_896
      · refine V.iconst (v := nI (1)) E dL_isStep_899 (by decide) ?_
        refine V.goto (tgt := 904) E dL_isStep_900 (by decide) ?_
        refine V.widen (k := 10) (n := 310) (Nat.le_of_ble_eq_true rfl) (Nat.le_of_ble_eq_true rfl) ?_
        exact hend _ _ _ _ dL_isStep_904 (nrB true) ⟨(qRes q1 1, g_883, qRes q2 1, g_893), rfl, rfl, h.res 1⟩
  · refine V.aload_n E dL_isStep_845 rfl rfl ?_
    refine V.iload E dL_isStep_846 rfl ?_
    refine V.iconst (v := nI (2)) E dL_isStep_848 (by decide) ?_
    refine V.callS E (c_L_up G z_ 2 (by decide) (by decide)) (bl [obW G a1 h1 q1 j1, obW G a2 h2 q2 j2, slB G q1, slB G q2]) [.ref (a1 0 0)] gL_isStep_L_up rfl hd_L_up ⟨⟨Nat.le_of_ble_eq_true rfl, Nat.le_of_ble_eq_true rfl⟩, Nat.le_of_ble_eq_true rfl, Nat.le_of_ble_eq_true rfl⟩ rfl (Nat.le_of_ble_eq_true rfl) rfl dL_isStep_849 (List.Perm.refl _) (kc' := 0) (ks' := 0) rfl rfl (rwI (ws' := (bl [obW G a1 h1 q1 j1, obW G a2 h2 q2 j2, slB G q1, slB G q2])) (List.Perm.refl _) ?_)
    refine V.nmN (fun s_ es_ => ?_)
    have hs_ : s_ < 2 := by rw [es_]; exact upv_lt _ (by decide)
    rcases (show s_ = 0 ∨ s_ = 1 by omega) with rfl | rfl
    · refine V.callV (C := RX4) E (o_save_0 G a1 h1 q1 j1 (h.q)) (bl [obW G a2 h2 q2 j2, slB G q2]) [] 0 4 rfl rfl rfl gL_isStep_X4_save rfl ⟨rfl, hd_X4_save⟩ ⟨⟨Nat.le_of_ble_eq_true rfl, Nat.le_of_ble_eq_true rfl⟩, Nat.le_of_ble_eq_true rfl, Nat.le_of_ble_eq_true rfl⟩ rfl (Nat.le_of_ble_eq_true rfl) rfl dL_isStep_852 (pBs (n := 4) [obW G a1 h1 q1 j1, obW G a2 h2 q2 j2, slB G q1, slB G q2] [0, 2] [1, 3] rfl (by decide)) (kc' := 5) (ks' := 155) rfl rfl (rxI (ws' := fun (g_852 : OJ × (Nat → Nat)) => (bl [obW G a1 h1 (qSav q1 0 g_852.2) g_852.1, obW G a2 h2 q2 j2, slB G (qSav q1 0 g_852.2), slB G q2])) (fun g_852 => (pBs (n := 4) [obW G a1 h1 (qSav q1 0 g_852.2) g_852.1, obW G a2 h2 q2 j2, slB G (qSav q1 0 g_852.2), slB G q2] [0, 2] [1, 3] rfl (by decide)).symm) (fun g_852 hf_852 => ?_))
      refine V.aload_n E dL_isStep_855 rfl rfl ?_
      refine V.iload E dL_isStep_856 rfl ?_
      refine V.iconst (v := nI (2)) E dL_isStep_858 (by decide) ?_
      refine V.callS E (c_L_up G z_ 2 (by decide) (by decide)) (bl [obW G a1 h1 (qSav q1 0 g_852.2) g_852.1, obW G a2 h2 q2 j2, slB G (qSav q1 0 g_852.2), slB G q2]) [.ref (a2 0 0), .int (nI (sumN 48 (scG (oX q1))))] gL_isStep_L_up rfl hd_L_up ⟨⟨Nat.le_of_ble_eq_true rfl, Nat.le_of_ble_eq_true rfl⟩, Nat.le_of_ble_eq_true rfl, Nat.le_of_ble_eq_true rfl⟩ rfl (Nat.le_of_ble_eq_true rfl) rfl dL_isStep_859 (List.Perm.refl _) (kc' := 5) (ks' := 155) rfl rfl (rwI (ws' := (bl [obW G a1 h1 (qSav q1 0 g_852.2) g_852.1, obW G a2 h2 q2 j2, slB G (qSav q1 0 g_852.2), slB G q2])) (List.Perm.refl _) ?_)
      refine V.topN (b := 0) (es_.symm) ?_
      refine V.callV (C := RX4) E (o_save_0 G a2 h2 q2 j2 (h.r)) (bl [obW G a1 h1 (qSav q1 0 g_852.2) g_852.1, slB G (qSav q1 0 g_852.2)]) [.int (nI (sumN 48 (scG (oX q1))))] 66 4 rfl rfl rfl gL_isStep_X4_save rfl ⟨rfl, hd_X4_save⟩ ⟨⟨Nat.le_of_ble_eq_true rfl, Nat.le_of_ble_eq_true rfl⟩, Nat.le_of_ble_eq_true rfl, Nat.le_of_ble_eq_true rfl⟩ rfl (Nat.le_of_ble_eq_true rfl) rfl dL_isStep_862 (pBs (n := 4) [obW G a1 h1 (qSav q1 0 g_852.2) g_852.1, obW G a2 h2 q2 j2, slB G (qSav q1 0 g_852.2), slB G q2] [1, 3] [0, 2] rfl (by decide)) (kc' := 10) (ks' := 310) rfl rfl (rxI (ws' := fun (g_862 : OJ × (Nat → Nat)) => (bl [obW G a1 h1 (qSav q1 0 g_852.2) g_852.1, obW G a2 h2 (qSav q2 0 g_862.2) g_862.1, slB G (qSav q1 0 g_852.2), slB G (qSav q2 0 g_862.2)])) (fun g_862 => (pBs (n := 4) [obW G a1 h1 (qSav q1 0 g_852.2) g_852.1, obW G a2 h2 (qSav q2 0 g_862.2) g_862.1, slB G (qSav q1 0 g_852.2), slB G (qSav q2 0 g_862.2)] [1, 3] [0, 2] rfl (by decide)).symm) (fun g_862 hf_862 => ?_))
      refine V.icmp_ne (tgt := 872) E dL_isStep_865 (by decide) (fun q_865 => ?_) (fun q_865 => ?_)
      · exact absurd (congrArg nI h.asum.symm) q_865
      · refine V.iconst (v := nI (1)) E dL_isStep_868 (by decide) ?_
        refine V.goto (tgt := 904) E dL_isStep_869 (by decide) ?_
        refine V.widen (k := 10) (n := 310) (Nat.le_of_ble_eq_true rfl) (Nat.le_of_ble_eq_true rfl) ?_
        exact hend _ _ _ _ dL_isStep_904 (nrB true) ⟨(qSav q1 0 g_852.2, g_852.1, qSav q2 0 g_862.2, g_862.1), rfl, rfl, h.sav 0 _ _⟩
    · refine V.callV (C := RX4) E (o_save_1 G a1 h1 q1 j1 (h.q)) (bl [obW G a2 h2 q2 j2, slB G q2]) [] 0 4 rfl rfl rfl gL_isStep_X4_save rfl ⟨rfl, hd_X4_save⟩ ⟨⟨Nat.le_of_ble_eq_true rfl, Nat.le_of_ble_eq_true rfl⟩, Nat.le_of_ble_eq_true rfl, Nat.le_of_ble_eq_true rfl⟩ rfl (Nat.le_of_ble_eq_true rfl) rfl dL_isStep_852 (pBs (n := 4) [obW G a1 h1 q1 j1, obW G a2 h2 q2 j2, slB G q1, slB G q2] [0, 2] [1, 3] rfl (by decide)) (kc' := 5) (ks' := 155) rfl rfl (rxI (ws' := fun (g_852 : OJ × (Nat → Nat)) => (bl [obW G a1 h1 (qSav q1 1 g_852.2) g_852.1, obW G a2 h2 q2 j2, slB G (qSav q1 1 g_852.2), slB G q2])) (fun g_852 => (pBs (n := 4) [obW G a1 h1 (qSav q1 1 g_852.2) g_852.1, obW G a2 h2 q2 j2, slB G (qSav q1 1 g_852.2), slB G q2] [0, 2] [1, 3] rfl (by decide)).symm) (fun g_852 hf_852 => ?_))
      refine V.aload_n E dL_isStep_855 rfl rfl ?_
      refine V.iload E dL_isStep_856 rfl ?_
      refine V.iconst (v := nI (2)) E dL_isStep_858 (by decide) ?_
      refine V.callS E (c_L_up G z_ 2 (by decide) (by decide)) (bl [obW G a1 h1 (qSav q1 1 g_852.2) g_852.1, obW G a2 h2 q2 j2, slB G (qSav q1 1 g_852.2), slB G q2]) [.ref (a2 0 0), .int (nI (sumN 48 (scG (oX q1))))] gL_isStep_L_up rfl hd_L_up ⟨⟨Nat.le_of_ble_eq_true rfl, Nat.le_of_ble_eq_true rfl⟩, Nat.le_of_ble_eq_true rfl, Nat.le_of_ble_eq_true rfl⟩ rfl (Nat.le_of_ble_eq_true rfl) rfl dL_isStep_859 (List.Perm.refl _) (kc' := 5) (ks' := 155) rfl rfl (rwI (ws' := (bl [obW G a1 h1 (qSav q1 1 g_852.2) g_852.1, obW G a2 h2 q2 j2, slB G (qSav q1 1 g_852.2), slB G q2])) (List.Perm.refl _) ?_)
      refine V.topN (b := 1) (es_.symm) ?_
      refine V.callV (C := RX4) E (o_save_1 G a2 h2 q2 j2 (h.r)) (bl [obW G a1 h1 (qSav q1 1 g_852.2) g_852.1, slB G (qSav q1 1 g_852.2)]) [.int (nI (sumN 48 (scG (oX q1))))] 66 4 rfl rfl rfl gL_isStep_X4_save rfl ⟨rfl, hd_X4_save⟩ ⟨⟨Nat.le_of_ble_eq_true rfl, Nat.le_of_ble_eq_true rfl⟩, Nat.le_of_ble_eq_true rfl, Nat.le_of_ble_eq_true rfl⟩ rfl (Nat.le_of_ble_eq_true rfl) rfl dL_isStep_862 (pBs (n := 4) [obW G a1 h1 (qSav q1 1 g_852.2) g_852.1, obW G a2 h2 q2 j2, slB G (qSav q1 1 g_852.2), slB G q2] [1, 3] [0, 2] rfl (by decide)) (kc' := 10) (ks' := 310) rfl rfl (rxI (ws' := fun (g_862 : OJ × (Nat → Nat)) => (bl [obW G a1 h1 (qSav q1 1 g_852.2) g_852.1, obW G a2 h2 (qSav q2 1 g_862.2) g_862.1, slB G (qSav q1 1 g_852.2), slB G (qSav q2 1 g_862.2)])) (fun g_862 => (pBs (n := 4) [obW G a1 h1 (qSav q1 1 g_852.2) g_852.1, obW G a2 h2 (qSav q2 1 g_862.2) g_862.1, slB G (qSav q1 1 g_852.2), slB G (qSav q2 1 g_862.2)] [1, 3] [0, 2] rfl (by decide)).symm) (fun g_862 hf_862 => ?_))
      refine V.icmp_ne (tgt := 872) E dL_isStep_865 (by decide) (fun q_865 => ?_) (fun q_865 => ?_)
      · exact absurd (congrArg nI h.asum.symm) q_865
      · refine V.iconst (v := nI (1)) E dL_isStep_868 (by decide) ?_
        refine V.goto (tgt := 904) E dL_isStep_869 (by decide) ?_
        refine V.widen (k := 10) (n := 310) (Nat.le_of_ble_eq_true rfl) (Nat.le_of_ble_eq_true rfl) ?_
        exact hend _ _ _ _ dL_isStep_904 (nrB true) ⟨(qSav q1 1 g_852.2, g_852.1, qSav q2 1 g_862.2, g_862.1), rfl, rfl, h.sav 1 _ _⟩
