/-! wipe, argument: both sides -/
theorem q_r_wipe (σ : jx_S) : ∃ τ, p_r_wipe σ = some (σ.1 106 1, τ) ∧ τ.1 106 1 = 0 ∧ τ.1 106 2 = 0 ∧ rf_zero τ ∧ ∀ k, k ≠ 106 → τ.1 k = σ.1 k ∧ τ.2 k = σ.2 k := by
  refine ⟨_, rfl, rfl, rfl, ⟨rfl, rfl, rfl, rfl, rfl, rfl, rfl, rfl, rfl, rfl, rfl, rfl, rfl, rfl, rfl, rfl, rfl, rfl, rfl, rfl, rfl⟩, fun k hk => ⟨?_, rfl⟩⟩
  funext j
  simp [jx_i, hk]
theorem q_cl_argument (σ : jx_S) (g : Nat) (v : Int32) (hg : σ.1 0 11 = nI g) (h8 : g < 8) : ∃ τ, p_cl_argument v σ = some (nI (g + 1), τ) ∧ τ.1 0 11 = nI (g + 1) ∧ τ.1 13 = upd (σ.1 13) g v := by
  unfold p_cl_argument
  rw [hg, if_pos (show nI g < (8 : Int32) from (nI_lt h8 (by omega) : nI g < nI 8))]
  refine ⟨_, by rw [nI_1], rfl, ?_⟩
  show jI_up 8 (σ.1 13) (nI g) v = _
  rw [jI_up_in h8 (by omega)]
theorem q_r_argument (σ : jx_S) (g : Nat) (v : Int32) (hg : σ.1 106 98 = nI g) (h8 : g < 8) : ∃ τ, p_r_argument v σ = some (nI (g + 1), τ) ∧ τ.1 106 2 = 0 ∧ τ.1 106 98 = nI (g + 1) ∧ τ.1 168 = upd (σ.1 168) g v := by
  unfold p_r_argument
  rw [hg, if_pos (show ¬ nI g = (8 : Int32) from fun e => by have := (nI_eq (a := g) (b := 8) (by omega) (by omega)).mp e; omega)]
  unfold p_r_argument_15
  rw [if_pos (by decide), hg, if_neg (jo_in h8 (by omega)), nI_1]
  refine ⟨_, rfl, rfl, rfl, ?_⟩
  show (jx_i (jx_i σ 106 2 0) 168 (nI g).toNatClampNeg v).1 168 = _
  rw [jx_i_upd, nI_clamp (by omega)]
  rfl
/-- the refused roads: the reference says 1 and keeps all else -/
theorem q_r_argument_no (σ : jx_S) (v : Int32) (hg : σ.1 106 98 = nI 8) : p_r_argument v σ = some (0, jx_i σ 106 2 1) := by
  unfold p_r_argument
  rw [hg, if_neg (by decide)]
  unfold p_r_argument_15
  rw [if_neg (by decide)]
theorem q_r_feed_no (σ : jx_S) (x1 : Int32) (x2 : Int64) (h : x1 < 1 ∨ 8 < x1 ∨ ¬ σ.1 106 1 + x1 ≤ 4000) : p_r_feed x1 x2 σ = some (0, jx_i σ 106 2 1) := by
  have h0 : p_r_feed_24 x1 x2 σ = some (0, jx_i σ 106 2 1) := by
    unfold p_r_feed_24 p_r_feed_29
    rw [if_neg (by decide)]
  unfold p_r_feed
  rw [h0]
  by_cases h1 : x1 < (1 : Int32)
  · rw [if_pos h1]
  · rw [if_neg h1]
    by_cases h2 : (8 : Int32) < x1
    · rw [if_pos h2]
    · rw [if_neg h2, if_neg (by rcases h with h | h | h; exact absurd h h1; exact absurd h h2; exact h)]
