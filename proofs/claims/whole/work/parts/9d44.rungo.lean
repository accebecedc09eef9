/-! RUNS, 44: go: the class's ticks against the reference's turns, down to an empty stack. -/
theorem tks_add {a b : Nat} {τ τ1 τ2 : jx_S} (h : tks a τ τ1) (k : tks b τ1 τ2) : tks (a + b) τ τ2 := by
  induction a generalizing τ with
  | zero =>
    have : τ1 = τ := h
    subst this
    rw [Nat.zero_add]; exact k
  | succ a ih =>
    obtain ⟨τ', h1, h2, h3, h4⟩ := h
    rw [show a + 1 + b = (a + b) + 1 by omega]
    exact ⟨τ', h1, h2, h3, ih h4⟩
theorem tick {E : jEn} {G : jGh} {F : Nat} {nS pN bN lN' : Nat → Nat} {ty : Nat → Nat → Nat} {W : Nat → Nat} {D : Nat → jDs} {tk LO : Nat → Nat} {sl sp : Nat → Nat → Nat} {H : jHp} {S : jSt} {pd : Nat} {an : aV} {bt fc st lm go : Nat} {τ ρ : jx_S} (h : RUN E G F nS pN bN lN' ty W D tk LO sl sp H S pd an bt fc st lm go τ ρ) (hd : 0 < jSd S) : ∃ j τ' ρ', 0 < j ∧ j ≤ 10 ∧ tks j τ τ' ∧ p_r_go_0_s ρ = some (.inl ρ') ∧ NX E G F nS pN bN lN' ty W D tk LO sl sp S bt fc st lm go j τ' ρ' := by
  obtain ⟨e1, e2, hse, hF, hN, ⟨e3, e4, e5⟩, s1, s2, s3, k2, hsg, hk12⟩ := top_of h hd
  have h14 := h.1.2.2.2.1.1
  have h11 : ¬ τ.1 8 11 ≤ 0 := by rw [s1]; exact nI_nle (by omega) (by omega)
  have one : (∃ τ' ρ', tk1 τ = some τ' ∧ p_r_go_0_s ρ = some (.inl ρ') ∧ NX E G F nS pN bN lN' ty W D tk LO sl sp S bt fc st lm go 1 τ' ρ') → ∃ j τ' ρ', 0 < j ∧ j ≤ 10 ∧ tks j τ τ' ∧ p_r_go_0_s ρ = some (.inl ρ') ∧ NX E G F nS pN bN lN' ty W D tk LO sl sp S bt fc st lm go j τ' ρ' := fun ⟨τ', ρ', q1, q2, q3⟩ => ⟨1, τ', ρ', by omega, by omega, tks_1 h14 h11 q1, q2, q3⟩
  by_cases z100 : jSg S (jSd S - 1) = 100
  · exact one (tick_last h hd z100)
  · have hT := hN.2.1
    have h5 := hse.2.2.2.2.1
    unfold okT at hT
    rcases hT with w | w | w | w | w | w | w | w | w | w
    · exact one (tick_lit h hd (Or.inl w.1))
    · exact one (tick_lit h hd (Or.inr w.1))
    · exact one (tick_err h hd w.1)
    · have hs : jSg S (jSd S - 1) = 0 ∨ jSg S (jSd S - 1) = 1 ∨ jSg S (jSd S - 1) = 2 := by unfold stgOK at h5; omega
      rcases hs with q | q | q
      · exact one (tick_sg0 h hd w.1 q)
      · exact one (tick_sg1 h hd w.1 q)
      · exact one (tick_sg2 h hd w.1 q)
    · exact one (tick_cons h hd w.1)
    · exact one (tick_let h hd w.1 z100)
    · have hs : jSg S (jSd S - 1) = 0 ∨ jSg S (jSd S - 1) = 1 := by unfold stgOK at h5; omega
      rcases hs with q | q
      · exact one (tick_ch0 h hd (Or.inl w.1) q)
      · exact one (tick_if1 h hd w.1 q)
    · have hs : jSg S (jSd S - 1) = 0 ∨ jSg S (jSd S - 1) = 1 := by unfold stgOK at h5; omega
      rcases hs with q | q
      · exact one (tick_ch0 h hd (Or.inr w.1) q)
      · exact one (tick_ca1 h hd w.1 q)
    · by_cases y : dM (D (jSk S (jSd S - 1))) = 0
      · exact one (tick_loc h hd w.1 y)
      · exact one (tick_held h hd w.1 (by omega) z100)
    · exact tick_call h hd w.1 z100
