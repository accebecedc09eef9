/-! ANALYSIS, 19: the rounds come to their end, in both in the same. -/
def sumN (g : Nat → Nat) : Nat → Nat
  | 0 => 0
  | n + 1 => sumN g n + g n
theorem sumN_le {g h : Nat → Nat} : ∀ n, (∀ i, i < n → g i ≤ h i) → sumN g n ≤ sumN h n := by
  intro n
  induction n with
  | zero => intro _; exact Nat.le_refl _
  | succ n ih =>
    intro hh
    have h1 := ih (fun i hi => hh i (by omega))
    have h2 := hh n (by omega)
    show sumN g n + g n ≤ sumN h n + h n
    omega
theorem sumN_lt {g h : Nat → Nat} : ∀ n, (∀ i, i < n → g i ≤ h i) → (∃ i, i < n ∧ g i < h i) → sumN g n < sumN h n := by
  intro n
  induction n with
  | zero => intro _ h; obtain ⟨i, hi, _⟩ := h; omega
  | succ n ih =>
    intro hh hx
    have h1 := sumN_le n (fun i hi => hh i (by omega))
    have h2 := hh n (by omega)
    show sumN g n + g n < sumN h n + h n
    obtain ⟨i, hi, hl⟩ := hx
    by_cases z : i = n
    · subst z; omega
    · have := ih (fun i hi => hh i (by omega)) ⟨i, by omega, hl⟩
      omega
theorem sumN_const {g : Nat → Nat} {k : Nat} : ∀ n, (∀ i, i < n → g i ≤ k) → sumN g n ≤ k * n := by
  intro n
  induction n with
  | zero => intro _; exact Nat.zero_le _
  | succ n ih =>
    intro hh
    have h1 := ih (fun i hi => hh i (by omega))
    have h2 := hh n (by omega)
    show sumN g n + g n ≤ k * (n + 1)
    rw [Nat.mul_add, Nat.mul_one]; omega
def ones (F : Nat) (nS pN : Nat → Nat) (ty : Nat → Nat → Nat) (D : Nat → jDs) (n : Nat) : Nat := sumN (fun f => sumN (fun c => Vn nS pN ty D n f c) (cnt (ty f) (pN f))) F
theorem ones_le {E : jEn} {F : Nat} {nS pN lN' : Nat → Nat} {ty : Nat → Nat → Nat} {W : Nat → Nat} {D : Nat → jDs} {tk : Nat → Nat} {τ ρ : jx_S} (hP : AP E F nS pN lN' ty W D tk τ ρ) (n : Nat) : ones F nS pN ty D n ≤ 40000 := by
  have hF := hP.1
  have h := sumN_const (g := fun f => sumN (fun c => Vn nS pN ty D n f c) (cnt (ty f) (pN f))) (k := 1000) F (fun f hf => by
    have h1 := sumN_const (g := fun c => Vn nS pN ty D n f c) (k := 1) (cnt (ty f) (pN f)) (fun c hc => by
      have := (Vn_le (n := n) hP hf hc).2.2
      show Vn nS pN ty D n f c ≤ 1
      omega)
    have h2 := (hP.2.2.2.2 f hf).2.2.2.2.2.2.2.1
    show sumN (fun c => Vn nS pN ty D n f c) (cnt (ty f) (pN f)) ≤ 1000
    omega)
  unfold ones
  omega
theorem ones_lt {E : jEn} {F : Nat} {nS pN lN' : Nat → Nat} {ty : Nat → Nat → Nat} {W : Nat → Nat} {D : Nat → jDs} {tk : Nat → Nat} {τ ρ : jx_S} (hP : AP E F nS pN lN' ty W D tk τ ρ) {n : Nat} (h : chg F nS pN ty D n) : ones F nS pN ty D n < ones F nS pN ty D (n + 1) := by
  obtain ⟨f, hf, c, hc, hv⟩ := h
  refine sumN_lt F (fun f hf => sumN_le _ (fun c hc => (Vn_le hP hf hc).1)) ⟨f, hf, sumN_lt _ (fun c hc => (Vn_le hP hf hc).1) ⟨c, hc, ?_⟩⟩
  have := (Vn_le (n := n) hP hf hc).1
  show Vn nS pN ty D n f c < Vn nS pN ty D (n + 1) f c
  omega
def cA16 : Int32 × Int32 × jx_S → Option ((Int32 × Int32 × jx_S) ⊕ jx_S) := fun s => p_cAna_analyse_16_s s.1 s.2.1 s.2.2
def rA35 : Int32 × jx_S → Option ((Int32 × jx_S) ⊕ jx_S) := fun s => p_r_analyse_35_s s.1 s.2
theorem rounds {E : jEn} {F : Nat} {nS pN lN' : Nat → Nat} {ty : Nat → Nat → Nat} {W : Nat → Nat} {D : Nat → jDs} {tk : Nat → Nat} : ∀ j n N M τ ρ, AP E F nS pN lN' ty W D tk τ ρ → 40000 - n = j → n ≤ ones F nS pN ty D n → j + 2 ≤ N → j + 2 ≤ M → CI F nS pN ty D n τ → RI F nS pN ty D n ρ → ∃ n' τ' ρ', jx_loop N cA16 (1, nI n, τ) = p_cAna_analyse_98 τ' ∧ jx_loop M rA35 (1, ρ) = p_r_analyse_49 0 ρ' ∧ n' ≤ 40000 ∧ ¬ chg F nS pN ty D n' ∧ CI F nS pN ty D (n' + 1) τ' ∧ RI F nS pN ty D (n' + 1) ρ' ∧ KQ [63, 65, 67, 69] 7 [6] τ τ' ∧ KQ [146, 147, 148, 149] 106 [56, 39] ρ ρ' := by
  intro j
  induction j with
  | zero =>
    intro n N M τ ρ hP hj hn hN hM hC hR
    have h1 := ones_le hP n
    obtain ⟨b, τ', e1, hb, hbi, k1, hC'⟩ := c_round (x3 := nI n) hP (show n < 1000000 by omega) hC
    obtain ⟨b2, ρ', e2, hb2, hbi2, k2, hR'⟩ := r_round hP hR
    have hno : ¬ chg F nS pN ty D n := fun q => by
      have := ones_lt hP q
      have := ones_le hP (n + 1)
      omega
    have b0 : b = 0 := by
      have : ¬ b = 1 := fun q => hno (hbi.1 q)
      omega
    have b20 : b2 = 0 := by
      have : ¬ b2 = 1 := fun q => hno (hbi2.1 q)
      omega
    subst b0 b20
    refine ⟨n, τ', ρ', ?_, ?_, by omega, hno, hC', hR', k1, k2⟩
    · rw [show N = N - 2 + 1 + 1 by omega, jx_loop_inl (s1 := (nI 0, nI (n + 1), τ')), jx_loop_out (X := p_cAna_analyse_98 τ')]
      · show p_cAna_analyse_16_s (nI 0) (nI (n + 1)) τ' = _
        unfold p_cAna_analyse_16_s
        by_cases z : (40000 : Int32) < nI (n + 1)
        · rw [if_pos z]
        · rw [if_neg z, if_pos (by decide)]
      · show p_cAna_analyse_16_s 1 (nI n) τ = _
        unfold p_cAna_analyse_16_s
        rw [if_neg (show ¬ (40000 : Int32) < nI n from (nI_nlt (by omega) (by omega) : ¬ nI 40000 < nI n)), if_neg (by decide), e1, nI_succ]
    · rw [show M = M - 2 + 1 + 1 by omega, jx_loop_inl (s1 := (nI 0, ρ')), jx_loop_out (X := p_r_analyse_49 0 ρ')]
      · show p_r_analyse_35_s (nI 0) ρ' = _
        unfold p_r_analyse_35_s
        rw [if_pos (by decide)]
      · show p_r_analyse_35_s 1 ρ = _
        unfold p_r_analyse_35_s
        rw [if_neg (by decide), e2, Option.bind_some]
  | succ j ih =>
    intro n N M τ ρ hP hj hn hN hM hC hR
    have h1 := ones_le hP n
    obtain ⟨b, τ', e1, hb, hbi, k1, hC'⟩ := c_round (x3 := nI n) hP (show n < 1000000 by omega) hC
    obtain ⟨b2, ρ', e2, hb2, hbi2, k2, hR'⟩ := r_round hP hR
    have st1 : cA16 (1, nI n, τ) = some (.inl (nI b, nI (n + 1), τ')) := by
      show p_cAna_analyse_16_s 1 (nI n) τ = _
      unfold p_cAna_analyse_16_s
      rw [if_neg (show ¬ (40000 : Int32) < nI n from (nI_nlt (by omega) (by omega) : ¬ nI 40000 < nI n)), if_neg (by decide), e1, nI_succ]
    have st2 : rA35 (1, ρ) = some (.inl (nI b2, ρ')) := by
      show p_r_analyse_35_s 1 ρ = _
      unfold p_r_analyse_35_s
      rw [if_neg (by decide), e2, Option.bind_some]
    by_cases hch : chg F nS pN ty D n
    · have b1 : b = 1 := hbi.2 hch
      have b21 : b2 = 1 := hbi2.2 hch
      subst b1 b21
      have hlt := ones_lt hP hch
      have hP' : AP E F nS pN lN' ty W D tk τ' ρ' := AP_r (AP_c hP (KQ_mono k1 (by decide) (by decide))) (KQ_mono k2 (by decide) (by decide))
      obtain ⟨n', τ2, ρ2, f1, f2, f3, f4, f5, f6, f7, f8⟩ := ih (n + 1) (N - 1) (M - 1) τ' ρ' hP' (by omega) (by omega) (by omega) (by omega) hC' hR'
      refine ⟨n', τ2, ρ2, ?_, ?_, f3, f4, f5, f6, KQ_trans k1 f7, KQ_trans k2 f8⟩
      · rw [show N = N - 1 + 1 by omega, jx_loop_inl st1]; exact f1
      · rw [show M = M - 1 + 1 by omega, jx_loop_inl st2]; exact f2
    · have b0 : b = 0 := by
        have : ¬ b = 1 := fun q => hch (hbi.1 q)
        omega
      have b20 : b2 = 0 := by
        have : ¬ b2 = 1 := fun q => hch (hbi2.1 q)
        omega
      subst b0 b20
      refine ⟨n, τ', ρ', ?_, ?_, by omega, hch, hC', hR', k1, k2⟩
      · rw [show N = N - 2 + 1 + 1 by omega, jx_loop_inl st1, jx_loop_out (X := p_cAna_analyse_98 τ')]
        show p_cAna_analyse_16_s (nI 0) (nI (n + 1)) τ' = _
        unfold p_cAna_analyse_16_s
        by_cases z : (40000 : Int32) < nI (n + 1)
        · rw [if_pos z]
        · rw [if_neg z, if_pos (by decide)]
      · rw [show M = M - 2 + 1 + 1 by omega, jx_loop_inl st2, jx_loop_out (X := p_r_analyse_49 0 ρ')]
        show p_r_analyse_35_s (nI 0) ρ' = _
        unfold p_r_analyse_35_s
        rw [if_pos (by decide)]
