/-! a contract over a greater world, in other words -/
theorem Ctr.pack {y : MethodName} {wy : List Cond} {rm : Room} {G : VC} {av : List Value} {wc wr W : va_W} {Post Post2 : Option Value → va_W → Prop} (hC : Ctr y wy rm G av wc Post) (hp : W.Perm (wc ++ wr)) (hpost : ∀ v u, Post v u → ∃ u2, (u ++ wr).Perm u2 ∧ Post2 v u2) : Ctr y wy rm G av W Post2 := by
  intro l sz p e h1 h2 h3 s m args below hfr hap hPc hK
  obtain ⟨hargs, hsz, hP, hKc, hD, hGl⟩ := hPc
  have hP' := hP.perm hp
  have hD' := hD.perm hp
  have inl : ∀ (i : Nat) (q : Nat × va_E), wc[i]? = some q → (wc ++ wr)[i]? = some q := fun i q h => by
    rw [List.getElem?_append_left (List.getElem?_eq_some_iff.mp h).1]; exact h
  have inr : ∀ (i : Nat) (q : Nat × va_E), wr[i]? = some q → (wc ++ wr)[wc.length + i]? = some q := fun i q h => by
    rw [List.getElem?_append_right (by omega), show wc.length + i - wc.length = i by omega]; exact h
  have hPc : va_P G.1 vwCl wc s.heap := fun k q hk => hP' k q (inl k q hk)
  have hPr : va_P G.1 vwCl wr s.heap := fun k q hk => hP' _ q (inr k q hk)
  have hDc : va_D (fun _ => True) wc := ⟨fun i j p q hi hj e => hD'.1 i j p q (inl i p hi) (inl j q hj) e, fun _ _ _ => trivial⟩
  have hDr : va_D (fun _ => True) wr := ⟨fun i j p q hi hj e => by have := hD'.1 _ _ p q (inr i p hi) (inr j q hj) e; omega, fun _ _ _ => trivial⟩
  have inW : ∀ q : Nat × va_E, q ∈ wc ++ wr → va_A W sz q.1 := fun q hq => by
    obtain ⟨i, hi⟩ := List.getElem?_of_mem (hp.mem_iff.mpr hq)
    exact Or.inl ⟨i, q.2, hi⟩
  have hF : ∀ q, va_A wc sz q → va_A W sz q := by
    rintro q (⟨i, e, h⟩ | h)
    · exact inW (q, e) (List.mem_append_left _ (List.mem_of_getElem? h))
    · exact Or.inr h
  have hG2 : Gl G (va_A wc sz) s s.heap := Gl.go hGl (State.WarmedH.refl s) (fun q h1 h2 => rfl) hF
  obtain ⟨n, o, b1, b2, b3, ⟨⟨v, u, ho, hpo, hPu, hDu⟩, hz, hk⟩, L, b4, b5⟩ := hC l sz p e h1 h2 h3 s m args below hfr hap ⟨hargs, hsz, hPc, hKc, hDc, hG2⟩ trivial
  have out : ∀ (i : Nat) (q : Nat × va_E), wr[i]? = some q → ¬ va_A wc sz q.1 := by
    rintro i q h (⟨j, e, h2⟩ | h2)
    · have h3 := hD'.1 _ _ q (q.1, e) (inr i q h) (inl j _ h2) rfl
      have h4 := (List.getElem?_eq_some_iff.mp h2).1
      omega
    · have := (hPr i q h).lt
      omega
  obtain ⟨u2, hpu, hpo2⟩ := hpost v u hpo
  have hPr1 : va_P G.1 vwCl wr (stepsAlone p.tables e n s).heap := hPr.kept (fun i q hq => hk q.1 (hPr i q hq).lt (out i q hq))
  have hDn : va_D (va_A W sz) (u ++ wr) := va_D.app (hDu.weaken (fun _ q _ h => hF q.1 h)) (hDr.weaken (fun i q hq _ => inW q (List.mem_append_right _ (List.mem_of_getElem? hq)))) (fun i j p q hi hj e => out j q hj (by rw [← e]; exact hDu.2 i p hi))
  exact ⟨n, o, b1, b2, b3, ⟨⟨v, u2, ho, hpo2, (hPu.app hPr1).perm hpu, hDn.perm hpu⟩, hz, fun q h1 h2 => hk q h1 (fun z => h2 (hF q z))⟩, L, b4, fun q hq => hF _ (b5 q hq)⟩
/-- what a caller knows beside the words of a contract -/
theorem Ctr.imp {y : MethodName} {wy : List Cond} {rm : Room} {G : VC} {av : List Value} {wc : va_W} {Post Post2 : Option Value → va_W → Prop} (hC : Ctr y wy rm G av wc Post) (hpost : ∀ v u, Post v u → Post2 v u) : Ctr y wy rm G av wc Post2 :=
  Ctr.pack (wr := []) hC (by rw [List.append_nil]) (fun v u h => ⟨u, by rw [List.append_nil], hpost v u h⟩)
