/-! ANALYSIS, 10: the program that is analysed: its nodes and functions in both. -/
theorem okD_of {E : jEn} {F : Nat} {pN bN lN' tk' : Nat → Nat} {ty : Nat → Nat → Nat} {W : Nat → Nat} {τ ρ : jx_S} {g k tk : Nat} {d : jDs} (hD : FD E F pN bN lN' tk' ty τ ρ) (hg : g < F) (hA : AN E τ ρ k tk d) (hT : okT F pN bN ty g W d k) (hW : W k < 14) (h28 : dK d = 28 → dS d < lN' g) (hB : dB d = 0 ∨ (dB d - 1 < lN' g ∧ ty g (dB d - 1) = W k)) : okD F pN lN' ty g W d k := by
  refine ⟨hA.2.2.1, hB, ?_⟩
  clear hB
  have ht := (hD g hg).2.2.2.2.2.2.2.2.1
  have hcl : dG d < F → bN (dG d) < 2 := fun h => (hD _ h).2.2.2.2.2.1
  clear hD hA
  unfold okT at hT
  rcases hT with ⟨a, b, c⟩ | ⟨a, b, c⟩ | ⟨a, b, c⟩ | ⟨a, b, c, e, f⟩ | ⟨a, b, c, e, f⟩ | ⟨a, b, c, e, f⟩ | ⟨a, b, c, e, f, h⟩ | ⟨a, b, c, e, f, h⟩ | ⟨a, b, c, e⟩ | ⟨a, b, c, e, f⟩
  · exact Or.inl ⟨Or.inl a, by omega⟩
  · exact Or.inl ⟨Or.inr (Or.inl a), by omega⟩
  · exact Or.inl ⟨Or.inr (Or.inr (Or.inr a)), b⟩
  · exact Or.inr (Or.inr (Or.inr (Or.inr (Or.inr ⟨a, b, by omega, by omega, by omega⟩))))
  · exact Or.inl ⟨Or.inr (Or.inr (Or.inl a)), by omega⟩
  · exact Or.inr (Or.inl ⟨a, b, c, f⟩)
  · exact Or.inr (Or.inr (Or.inl ⟨Or.inl a, b, c, by omega, by omega, by omega⟩))
  · exact Or.inr (Or.inr (Or.inl ⟨Or.inr a, b, c, by omega, by omega, by omega⟩))
  · exact Or.inr (Or.inr (Or.inr (Or.inl ⟨a, h28 a, (ht _ (h28 a)).1, b, c, e⟩)))
  · have hb := hcl b
    refine Or.inr (Or.inr (Or.inr (Or.inr (Or.inl ⟨a, b, c, ?_⟩))))
    clear ht hcl h28
    generalize pN (dG d) = p at *
    generalize bN (dG d) = bb at *
    generalize dM d = m at *
    generalize W k = w at *
    generalize ty (dG d) = t at *
    unfold lfv at e
    by_cases q0 : p - m = 0
    · rw [if_pos q0] at e
      have hw2 := (nI_eq (by omega) (by omega)).1 e
      refine ⟨by omega, f, fun i h1 h2 => by omega, ?_⟩
      rw [if_pos q0, tyQ_b (by omega)]
    · rw [if_neg q0] at e
      by_cases q1 : p - m = 1
      · rw [if_pos q1] at e
        by_cases z : t m < 2
        · rw [if_pos z] at e
          have hw2 := (nI_eq (by omega) (by omega)).1 e
          refine ⟨by omega, f, fun i h1 h2 => by rw [show i = m by omega]; exact z, ?_⟩
          rw [if_neg q0, if_pos q1]
          unfold tyQ
          rw [if_neg (by omega), if_pos (by omega)]
        · rw [if_neg z] at e
          exact absurd e.symm (nI_ne_m1 (by omega))
      · rw [if_neg q1] at e
        by_cases q2 : p - m = 2
        · rw [if_pos q2] at e
          by_cases z : t m < 2 ∧ t (m + 1) < 2
          · rw [if_pos z] at e
            have hw2 := (nI_eq (by omega) (by omega)).1 e
            refine ⟨by omega, f, fun i h1 h2 => ?_, ?_⟩
            · rcases (show i = m ∨ i = m + 1 by omega) with rfl | rfl
              · exact z.1
              · exact z.2
            rw [if_neg q0, if_neg q1]
            unfold tyQ
            rw [if_neg (by omega), if_neg (by omega)]
          · rw [if_neg z] at e
            exact absurd e.symm (nI_ne_m1 (by omega))
        · rw [if_neg q2] at e
          exact absurd e.symm (nI_ne_m1 (by omega))
/-- what is let: where its body lies -/
def letR (D : Nat → jDs) (lN' : Nat → Nat) (g : Nat) (ρ : jx_S) (k : Nat) : Prop := dK (D k) = 5 → dM (D k) = 2 ∧ dS (D k) < lN' g ∧ ρ.1 121 (dC (D k) 1) = nI (dC (D k) 0 + 1) ∧ dC (D k) 0 < dC (D k) 1 ∧ ∀ j, dC (D k) 0 < j → j ≤ dC (D k) 1 → ∀ i, i < dM (D j) → dC (D k) 0 < dC (D j) i
def AFn (E : jEn) (F : Nat) (nS pN lN' : Nat → Nat) (ty : Nat → Nat → Nat) (W : Nat → Nat) (D : Nat → jDs) (tk : Nat → Nat) (τ ρ : jx_S) (g : Nat) : Prop :=
  (nS g < nS (g + 1) ∧ nS (g + 1) ≤ 1200 ∧ W (nS (g + 1) - 1) < 2) ∧
  (∀ k, nS g ≤ k → k < nS (g + 1) → AN E τ ρ k (tk k) (D k) ∧ okD F pN lN' ty g W (D k) k ∧ (∀ i, i < dM (D k) → nS g ≤ dC (D k) i) ∧ letR D lN' g ρ k) ∧
  (τ.1 43 g = nI (pN g) ∧ τ.1 47 g = nI (lN' g) ∧ τ.1 49 g = nI (nS g + 1) ∧ τ.1 51 g = nI (nS (g + 1)) ∧ τ.1 53 g = nI (cnt (ty g) (pN g)) ∧ ∀ i, i < lN' g → τ.1 57 (30 * g + i) = nI (ty g i)) ∧
  (ρ.1 127 g = nI (pN g) ∧ ρ.1 129 g = nI (lN' g) ∧ ρ.1 132 g = nI (nS g) ∧ ρ.1 131 g = nI (nS (g + 1) - 1) ∧ ρ.1 133 g = nI (cnt (ty g) (pN g)) ∧ (∀ i, i < lN' g → ρ.1 137 (30 * g + i) = nI (ty g i)) ∧ ∀ i, i < pN g → ρ.1 135 (8 * g + i) = nI (ty g i)) ∧
  (pN g ≤ 8 ∧ pN g ≤ lN' g ∧ lN' g ≤ 30 ∧ cnt (ty g) (pN g) ≤ 1000 ∧ ∀ i, i < lN' g → ty g i < 14)
def AP (E : jEn) (F : Nat) (nS pN lN' : Nat → Nat) (ty : Nat → Nat → Nat) (W : Nat → Nat) (D : Nat → jDs) (tk : Nat → Nat) (τ ρ : jx_S) : Prop := F ≤ 40 ∧ τ.1 4 10 = nI F ∧ ρ.1 106 38 = nI F ∧ ρ.1 106 25 = nI (nS F) ∧ ∀ g, g < F → AFn E F nS pN lN' ty W D tk τ ρ g
def crAn : List Nat := [4, 23, 25, 27, 29, 31, 33, 35, 43, 47, 49, 51, 53, 57]
def rrAn : List Nat := [112, 113, 114, 115, 116, 117, 118, 119, 120, 121, 122, 123, 127, 129, 131, 132, 133, 135, 137]
theorem AP_keep {E : jEn} {F : Nat} {nS pN lN' : Nat → Nat} {ty : Nat → Nat → Nat} {W : Nat → Nat} {D : Nat → jDs} {tk : Nat → Nat} {τ ρ τ' ρ' : jx_S} (h : AP E F nS pN lN' ty W D tk τ ρ) (h1 : same crAn τ τ') (h2 : same rrAn ρ ρ') (h3 : ρ'.1 106 38 = ρ.1 106 38) (h4 : ρ'.1 106 25 = ρ.1 106 25) : AP E F nS pN lN' ty W D tk τ' ρ' := by
  have e4 : τ'.1 4 = τ.1 4 := h1 4 (by decide)
  have e23 : τ'.1 23 = τ.1 23 := h1 23 (by decide)
  have e25 : τ'.1 25 = τ.1 25 := h1 25 (by decide)
  have e27 : τ'.1 27 = τ.1 27 := h1 27 (by decide)
  have e29 : τ'.1 29 = τ.1 29 := h1 29 (by decide)
  have e31 : τ'.1 31 = τ.1 31 := h1 31 (by decide)
  have e33 : τ'.1 33 = τ.1 33 := h1 33 (by decide)
  have e35 : τ'.1 35 = τ.1 35 := h1 35 (by decide)
  have e43 : τ'.1 43 = τ.1 43 := h1 43 (by decide)
  have e47 : τ'.1 47 = τ.1 47 := h1 47 (by decide)
  have e49 : τ'.1 49 = τ.1 49 := h1 49 (by decide)
  have e51 : τ'.1 51 = τ.1 51 := h1 51 (by decide)
  have e53 : τ'.1 53 = τ.1 53 := h1 53 (by decide)
  have e57 : τ'.1 57 = τ.1 57 := h1 57 (by decide)
  have r112 : ρ'.1 112 = ρ.1 112 := h2 112 (by decide)
  have r113 : ρ'.1 113 = ρ.1 113 := h2 113 (by decide)
  have r114 : ρ'.1 114 = ρ.1 114 := h2 114 (by decide)
  have r115 : ρ'.1 115 = ρ.1 115 := h2 115 (by decide)
  have r116 : ρ'.1 116 = ρ.1 116 := h2 116 (by decide)
  have r117 : ρ'.1 117 = ρ.1 117 := h2 117 (by decide)
  have r118 : ρ'.1 118 = ρ.1 118 := h2 118 (by decide)
  have r119 : ρ'.1 119 = ρ.1 119 := h2 119 (by decide)
  have r120 : ρ'.1 120 = ρ.1 120 := h2 120 (by decide)
  have r121 : ρ'.1 121 = ρ.1 121 := h2 121 (by decide)
  have r122 : ρ'.1 122 = ρ.1 122 := h2 122 (by decide)
  have r123 : ρ'.1 123 = ρ.1 123 := h2 123 (by decide)
  have r127 : ρ'.1 127 = ρ.1 127 := h2 127 (by decide)
  have r129 : ρ'.1 129 = ρ.1 129 := h2 129 (by decide)
  have r131 : ρ'.1 131 = ρ.1 131 := h2 131 (by decide)
  have r132 : ρ'.1 132 = ρ.1 132 := h2 132 (by decide)
  have r133 : ρ'.1 133 = ρ.1 133 := h2 133 (by decide)
  have r135 : ρ'.1 135 = ρ.1 135 := h2 135 (by decide)
  have r137 : ρ'.1 137 = ρ.1 137 := h2 137 (by decide)
  unfold AP AFn AN letR v_cTre_boundBy at h ⊢
  rw [e4, e23, e25, e27, e29, e31, e33, e35, e43, e47, e49, e51, e53, e57, r112, r113, r114, r115, r116, r117, r118, r119, r120, r121, r122, r123, r127, r129, r131, r132, r133, r135, r137, h3, h4]
  exact h
