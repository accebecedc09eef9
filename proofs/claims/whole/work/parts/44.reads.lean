/-! element, told: first rows -/
theorem q_r_element_no (σ : jx_S) (x1 : Int32) (h : x1 < 0 ∨ ¬ x1 < σ.1 106 95) : p_r_element x1 σ = some (0, jx_i σ 106 2 1) := by
  have h0 : p_r_element_13 x1 σ = some (0, jx_i σ 106 2 1) := by
    unfold p_r_element_13 p_r_element_18
    rw [if_neg (by decide)]
  unfold p_r_element
  rw [h0]
  by_cases h1 : x1 < (0 : Int32)
  · rw [if_pos h1]
  · rw [if_neg h1, if_neg (by rcases h with h | h; exact absurd h h1; exact h)]
theorem q_r_element (σ : jx_S) (i a : Nat) (ha : σ.1 106 95 = nI a) (hi : i < a) (h50 : a ≤ 50) : p_r_element (nI i) σ = some (σ.1 167 i, jx_i σ 106 2 0) := by
  unfold p_r_element
  rw [if_neg (nI_pos (by omega)), ha, if_pos (nI_lt hi (by omega))]
  unfold p_r_element_18
  rw [if_pos (by decide), if_neg (jo_in (by omega) (by omega)), nI_clamp (by omega)]
theorem q_cl_element (σ : jx_S) (i a : Nat) (ha : σ.1 71 6 = nI a) (hi : i < a) (h50 : a ≤ 50) : p_cl_element (nI i) σ = some (σ.1 73 i, σ) := by
  unfold p_cl_element
  rw [show jI_at 10 (σ.1 71) (6 : Int32) = nI a from (jI_at_in (n := 10) (j := 6) (f := σ.1 71) (by omega) (by omega)).trans ha]
  rw [if_neg (nI_pos (by omega)), if_pos (nI_lt hi (by omega)), jI_at_in (by omega) (by omega)]
theorem q_r_told_no (σ : jx_S) (x1 : Int32) (h : x1 < 0 ∨ ¬ x1 ≤ 9) : p_r_told x1 σ = some (0, jx_i σ 106 2 1) := by
  have h0 : p_r_told_11 x1 σ = some (0, jx_i σ 106 2 1) := by
    unfold p_r_told_11 p_r_told_16
    rw [if_neg (by decide)]
  unfold p_r_told
  rw [h0]
  by_cases h1 : x1 < (0 : Int32)
  · rw [if_pos h1]
  · rw [if_neg h1, if_neg (by rcases h with h | h; exact absurd h h1; exact h)]
theorem q_cl_told (σ : jx_S) (i : Nat) (hi : i < 10) : p_cl_told (nI i) σ = some (σ.1 71 i, σ) := by
  unfold p_cl_told
  rw [if_neg (nI_pos (by omega)), if_pos (show nI i < (10 : Int32) from (nI_lt hi (by omega) : nI i < nI 10)), jI_at_in hi (by omega)]
