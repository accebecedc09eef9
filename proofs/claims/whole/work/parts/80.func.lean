/-! READER, 27: behind a fault a function falls out. -/
theorem FR_r {t s x : Nat} {τ ρ ρ' : jx_S} (h : FR t s x τ ρ) (e : ρ'.1 106 = ρ.1 106) : FR t s x τ ρ' := by
  unfold FR at *
  rw [e]
  exact h
/-- both have the same fault; what is still known -/
def FX (τ ρ : jx_S) : Prop := τ.1 1 0 ≠ 0 ∧ ρ.1 106 41 = 0 ∧ ρ.1 106 4 = τ.1 1 0 ∧ ρ.1 106 5 = τ.1 1 1 ∧ (τ.1 29 0 = 0 ∧ τ.1 23 0 = 0)
theorem FX_of {t s x : Nat} {τ ρ : jx_S} (h : FR t s x τ ρ) : FX τ ρ := ⟨h.1, h.2.1, h.2.2.1, h.2.2.2.1, h.2.2.2.2.2.2.2.2⟩
theorem told_fun89 {τ : jx_S} (h : τ.1 1 0 ≠ 0) (x : Int32) : ∃ τ', p_cRea_readFunction_89 x τ = some τ' ∧ τ'.1 1 = τ.1 1 ∧ (τ'.1 29 = τ.1 29 ∧ τ'.1 23 = τ.1 23) := by
  unfold p_cRea_readFunction_89
  rw [told_pass h (by decide), Option.bind_some, told_base h, Option.bind_some]
  dsimp only
  have h1 : (jI_put 40 τ 45 x 0).1 1 0 ≠ 0 := by rw [s_p_ne (by decide)]; exact h
  rw [told_pass h1 (by decide), Option.bind_some, told_expr h1 32, Option.bind_some]
  dsimp only
  have h2 : (jI_put 40 (jI_put 40 τ 45 x 0) 51 x 0).1 1 0 ≠ 0 := by rw [s_p_ne (by decide)]; exact h1
  rw [told_pass h2 (by decide), Option.bind_some]
  exact ⟨_, rfl, by rw [s_p_ne (by decide), s_p_ne (by decide)], by rw [s_p_ne (by decide), s_p_ne (by decide)], by rw [s_p_ne (by decide), s_p_ne (by decide)]⟩
theorem shut_fun245 {ρ : jx_S} (h : ρ.1 106 41 = 0) {f : Nat} (hf : f < 40) : ∃ ρ', p_r_function0_245 (nI f) ρ = some ρ' ∧ ρ'.1 106 41 = 0 ∧ ρ'.1 106 4 = ρ.1 106 4 ∧ ρ'.1 106 5 = ρ.1 106 5 := by
  unfold p_r_function0_245
  rw [shut_expect h, Option.bind_some, if_neg (nI_in hf (by omega)), if_pos (by simp (disch := first | assumption | decide | omega) only [h, nI_lit, cT_lt, cF_lt, cT_le, cF_le, cT_eq, cF_eq, nF_le, mF_eq, mG_eq, mT_lt, eq_self, nI_clamp, nI_add, Nat.add_zero, nI_sub, s_i_ne, s_i_eq, s_i_2, s_l_1, s_l_ne, s_l_eq, s_p_ne, s_p_eq, s_p_2, s_q_1, s_q_ne, s_q_eq, u_ne, u_eq, v_ne, v_eq, w_ne, w_eq, jI_at_in, jL_at_in, false_or, or_false, true_or, or_true, true_and, and_true, false_and, and_false, not_true_eq_false, not_false_eq_true, ↓reduceIte, Option.bind_some, Option.map_some])]
  refine ⟨_, rfl, ?_, ?_, ?_⟩ <;> simp (disch := first | assumption | decide | omega) only [h, nI_lit, cT_lt, cF_lt, cT_le, cF_le, cT_eq, cF_eq, nF_le, mF_eq, mG_eq, mT_lt, eq_self, nI_clamp, nI_add, Nat.add_zero, nI_sub, s_i_ne, s_i_eq, s_i_2, s_l_1, s_l_ne, s_l_eq, s_p_ne, s_p_eq, s_p_2, s_q_1, s_q_ne, s_q_eq, u_ne, u_eq, v_ne, v_eq, w_ne, w_eq, jI_at_in, jL_at_in, false_or, or_false, true_or, or_true, true_and, and_true, false_and, and_false, not_true_eq_false, not_false_eq_true, ↓reduceIte, Option.bind_some, Option.map_some]
theorem shut_fun170 {ρ : jx_S} (h : ρ.1 106 41 = 0) {f : Nat} (hf : f < 40) (N : Nat) : ∃ ρ', jx_loop (N + 1) rdF (nI f, ρ) = some ρ' ∧ ρ'.1 106 41 = 0 ∧ ρ'.1 106 4 = ρ.1 106 4 ∧ ρ'.1 106 5 = ρ.1 106 5 := by
  obtain ⟨ρ', q1, q2⟩ := shut_fun245 h hf
  refine ⟨ρ', jx_loop_out (X := some ρ') ?_ N, q2⟩
  show p_r_function0_170_s (nI f) ρ = _
  unfold p_r_function0_170_s p_r_function0_228
  rw [if_pos h, if_pos h, q1]
theorem shut_fun131 {ρ : jx_S} {a t : Nat} (h : ρ.1 106 41 = 0) (ha : ρ.1 106 40 = nI a) (h2 : a < 1202) (h45 : ρ.1 106 45 = nI t) (ht : t < 4000) {f : Nat} (hf : f < 40) : ∃ ρ', p_r_function0_131 (nI f) ρ = some ρ' ∧ ρ'.1 106 41 = 0 ∧ ρ'.1 106 4 = ρ.1 106 4 ∧ ρ'.1 106 5 = ρ.1 106 5 := by
  unfold p_r_function0_131
  have e0 : nI a + 0 = nI a := Int32.add_zero _
  rw [shut_expect h, Option.bind_some, ha, e0]
  obtain ⟨w, hw⟩ := shut_base (ρ := jx_i ρ 106 40 (nI a)) (a := a) (by simp (disch := first | assumption | decide | omega) only [h, nI_lit, cT_lt, cF_lt, cT_le, cF_le, cT_eq, cF_eq, nF_le, mF_eq, mG_eq, mT_lt, eq_self, nI_clamp, nI_add, Nat.add_zero, nI_sub, s_i_ne, s_i_eq, s_i_2, s_l_1, s_l_ne, s_l_eq, s_p_ne, s_p_eq, s_p_2, s_q_1, s_q_ne, s_q_eq, u_ne, u_eq, v_ne, v_eq, w_ne, w_eq, jI_at_in, jL_at_in, false_or, or_false, true_or, or_true, true_and, and_true, false_and, and_false, not_true_eq_false, not_false_eq_true, ↓reduceIte, Option.bind_some, Option.map_some]) (by simp (disch := first | assumption | decide | omega) only [nI_lit, cT_lt, cF_lt, cT_le, cF_le, cT_eq, cF_eq, nF_le, mF_eq, mG_eq, mT_lt, eq_self, nI_clamp, nI_add, Nat.add_zero, nI_sub, s_i_ne, s_i_eq, s_i_2, s_l_1, s_l_ne, s_l_eq, s_p_ne, s_p_eq, s_p_2, s_q_1, s_q_ne, s_q_eq, u_ne, u_eq, v_ne, v_eq, w_ne, w_eq, jI_at_in, jL_at_in, false_or, or_false, true_or, or_true, true_and, and_true, false_and, and_false, not_true_eq_false, not_false_eq_true, ↓reduceIte, Option.bind_some, Option.map_some]) h2
  rw [hw, Option.bind_some]
  dsimp only
  have hc : (jx_i (jx_i (jx_i ρ 106 40 (nI a)) 106 40 ((jx_i ρ 106 40 (nI a)).1 106 40 + 0)) 128 f w).1 106 41 = 0 := by simp (disch := first | assumption | decide | omega) only [h, nI_lit, cT_lt, cF_lt, cT_le, cF_le, cT_eq, cF_eq, nF_le, mF_eq, mG_eq, mT_lt, eq_self, nI_clamp, nI_add, Nat.add_zero, nI_sub, s_i_ne, s_i_eq, s_i_2, s_l_1, s_l_ne, s_l_eq, s_p_ne, s_p_eq, s_p_2, s_q_1, s_q_ne, s_q_eq, u_ne, u_eq, v_ne, v_eq, w_ne, w_eq, jI_at_in, jL_at_in, false_or, or_false, true_or, or_true, true_and, and_true, false_and, and_false, not_true_eq_false, not_false_eq_true, ↓reduceIte, Option.bind_some, Option.map_some]
  rw [if_neg (nI_in hf (by omega)), nI_clamp (show f < 2 ^ 31 by omega), shut_expect hc, Option.bind_some]
  have hq : ∀ σ : jx_S, σ.1 106 45 = nI t → p_r_later (1 : Int32) (0 : Int32) (0 : Int32) σ = some (jx_i (jx_i (jx_i (jx_i σ 138 t 1) 139 t 0) 140 t 0) 106 45 (nI (t + 1))) := fun σ q => q_r_later σ t 1 0 0 q ht
  have hni : ¬ (nI f < 0 ∨ 40 ≤ f) := fun q => by
    rcases q with q | q
    · exact nI_pos (by omega) q
    · omega
  rw [if_neg hni]
  rw [hq _ (by simp (disch := first | assumption | decide | omega) only [h45, nI_lit, cT_lt, cF_lt, cT_le, cF_le, cT_eq, cF_eq, nF_le, mF_eq, mG_eq, mT_lt, eq_self, nI_clamp, nI_add, Nat.add_zero, nI_sub, s_i_ne, s_i_eq, s_i_2, s_l_1, s_l_ne, s_l_eq, s_p_ne, s_p_eq, s_p_2, s_q_1, s_q_ne, s_q_eq, u_ne, u_eq, v_ne, v_eq, w_ne, w_eq, jI_at_in, jL_at_in, false_or, or_false, true_or, or_true, true_and, and_true, false_and, and_false, not_true_eq_false, not_false_eq_true, ↓reduceIte, Option.bind_some, Option.map_some]), Option.bind_some]
  unfold p_r_function0_170
  obtain ⟨ρ', q1, q2, q3, q4⟩ := shut_fun170 (f := f) (ρ := jx_i (jx_i (jx_i (jx_i (jx_i (jx_i (jx_i (jx_i (jx_i ρ 106 40 (nI a)) 106 40 ((jx_i ρ 106 40 (nI a)).1 106 40 + 0)) 128 f w) 106 40 ((jx_i (jx_i (jx_i ρ 106 40 (nI a)) 106 40 ((jx_i ρ 106 40 (nI a)).1 106 40 + 0)) 128 f w).1 106 40 + 0)) 132 f ((jx_i (jx_i (jx_i (jx_i ρ 106 40 (nI a)) 106 40 ((jx_i ρ 106 40 (nI a)).1 106 40 + 0)) 128 f w) 106 40 ((jx_i (jx_i (jx_i ρ 106 40 (nI a)) 106 40 ((jx_i ρ 106 40 (nI a)).1 106 40 + 0)) 128 f w).1 106 40 + 0)).1 106 25)) 138 t 1) 139 t 0) 140 t 0) 106 45 (nI (t + 1))) (by simp (disch := first | assumption | decide | omega) only [h, nI_lit, cT_lt, cF_lt, cT_le, cF_le, cT_eq, cF_eq, nF_le, mF_eq, mG_eq, mT_lt, eq_self, nI_clamp, nI_add, Nat.add_zero, nI_sub, s_i_ne, s_i_eq, s_i_2, s_l_1, s_l_ne, s_l_eq, s_p_ne, s_p_eq, s_p_2, s_q_1, s_q_ne, s_q_eq, u_ne, u_eq, v_ne, v_eq, w_ne, w_eq, jI_at_in, jL_at_in, false_or, or_false, true_or, or_true, true_and, and_true, false_and, and_false, not_true_eq_false, not_false_eq_true, ↓reduceIte, Option.bind_some, Option.map_some]) hf 99999999
  refine ⟨ρ', q1, q2, ?_, ?_⟩
  · rw [q3]; simp (disch := first | assumption | decide | omega) only [nI_lit, cT_lt, cF_lt, cT_le, cF_le, cT_eq, cF_eq, nF_le, mF_eq, mG_eq, mT_lt, eq_self, nI_clamp, nI_add, Nat.add_zero, nI_sub, s_i_ne, s_i_eq, s_i_2, s_l_1, s_l_ne, s_l_eq, s_p_ne, s_p_eq, s_p_2, s_q_1, s_q_ne, s_q_eq, u_ne, u_eq, v_ne, v_eq, w_ne, w_eq, jI_at_in, jL_at_in, false_or, or_false, true_or, or_true, true_and, and_true, false_and, and_false, not_true_eq_false, not_false_eq_true, ↓reduceIte, Option.bind_some, Option.map_some]
  · rw [q4]; simp (disch := first | assumption | decide | omega) only [nI_lit, cT_lt, cF_lt, cT_le, cF_le, cT_eq, cF_eq, nF_le, mF_eq, mG_eq, mT_lt, eq_self, nI_clamp, nI_add, Nat.add_zero, nI_sub, s_i_ne, s_i_eq, s_i_2, s_l_1, s_l_ne, s_l_eq, s_p_ne, s_p_eq, s_p_2, s_q_1, s_q_ne, s_q_eq, u_ne, u_eq, v_ne, v_eq, w_ne, w_eq, jI_at_in, jL_at_in, false_or, or_false, true_or, or_true, true_and, and_true, false_and, and_false, not_true_eq_false, not_false_eq_true, ↓reduceIte, Option.bind_some, Option.map_some]
