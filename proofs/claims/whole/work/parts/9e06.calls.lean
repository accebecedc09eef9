/-! CALLS, 6: parameter, value, isStrict, function. -/
theorem call_param {τ ρ : jx_S} (h : IV2 τ ρ) (x1 x2 x3 : Int32) : (∃ r ρ', p_cl_parameter x1 x2 x3 τ = some (r, τ) ∧ p_r_parameter3 x1 x2 x3 ρ = some (r, ρ') ∧ ρ'.1 106 2 = 0 ∧ IV2 τ ρ') ∨ ((v_cl_hasFunction x1 τ = 0 ∨ (v_cl_hasFunction x1 τ = 1 ∧ (x2 < 0 ∨ (jI_at 40 (τ.1 43) x1) ≤ x2 ∨ x3 < 0 ∨ ¬ x3 ≤ 1))) ∧ ∃ ρ', p_r_parameter3 x1 x2 x3 ρ = some (0, ρ') ∧ ρ'.1 106 2 = 1 ∧ IV2 τ ρ') := by
  have no : p_r_parameter3_32 x1 x2 x3 ρ = some (0, jx_i ρ 106 2 1) := by
    unfold p_r_parameter3_32 p_r_parameter3_37
    rw [if_neg (by decide)]
  have no2 : (jx_i ρ 106 2 1).1 106 2 = 1 := by rw [s_i_eq, u_eq rfl]
  rcases has_or h x1 with ⟨q1, q2⟩ | ⟨q1, q2, f, τ1, ρ1, E, G, F, nS, tS, R, pN, bN, lN', ty, V, rfl, hf, hUS, hC, hR⟩
  · right
    refine ⟨Or.inl q1, _, ?_, no2, IV2_2 h⟩
    unfold p_r_parameter3
    rw [q2, if_pos (by decide)]; exact no
  · obtain ⟨hRP, e1, e2, e3⟩ := use_of hUS hC hR
    obtain ⟨⟨a1, a2, a3, a4, a5⟩, ⟨b1, b2, b3, b4, b5⟩, ⟨c1, c2, c3, c4, c5⟩, ⟨d1, d2, d3, d4, d5⟩, _⟩ := hRP.2.2 f hf
    obtain ⟨hE, hEC, hER, hEV, hAP, hAN, hn, hUF, u⟩ := id hUS
    obtain ⟨_, _, ⟨_, _, _, _, _, p57⟩, ⟨_, _, _, _, _, _, p135⟩, _⟩ := hAP.2.2.2.2 f hf
    have hfi : ¬ (nI f < 0 ∨ 40 ≤ f) := fun z => by
      rcases z with z | z
      · exact nI_pos (by omega) z
      · omega
    have e43 : jI_at 40 (τ.1 43) (nI f) = nI (pN f) := (jI_at_in (by omega) (by omega)).trans c1
    rw [e43]
    by_cases hx : x2 < 0 ∨ nI (pN f) ≤ x2 ∨ x3 < 0 ∨ ¬ x3 ≤ 1
    · right
      refine ⟨Or.inr ⟨q1, hx⟩, _, ?_, no2, IV2_2 h⟩
      unfold p_r_parameter3
      rw [q2, if_neg (fun q => q rfl), nI_clamp (show f < 2 ^ 31 by omega), if_neg hfi, d1, no]
      by_cases y1 : x2 < 0
      · rw [if_pos y1]
      · rw [if_neg y1]
        by_cases y2 : nI (pN f) ≤ x2
        · rw [if_pos y2]
        · rw [if_neg y2]
          by_cases y3 : x3 < 0
          · rw [if_pos y3]
          · rw [if_neg y3, if_neg (by
              rcases hx with q | q | q | q
              · exact absurd q y1
              · exact absurd q y2
              · exact absurd q y3
              · exact q)]
    · left
      have y1 : ¬ x2 < 0 := fun q => hx (Or.inl q)
      have y2 : ¬ nI (pN f) ≤ x2 := fun q => hx (Or.inr (Or.inl q))
      have y3 : ¬ x3 < 0 := fun q => hx (Or.inr (Or.inr (Or.inl q)))
      have y4 : x3 ≤ 1 := Classical.byContradiction (fun q => hx (Or.inr (Or.inr (Or.inr q))))
      obtain ⟨i, i1, rfl⟩ := nI_ofP y1
      obtain ⟨w, w1, rfl⟩ := nI_ofP y3
      have hi : i < pN f := Classical.byContradiction (fun q => y2 (nI_le (by omega) i1))
      have hw : w ≤ 1 := Classical.byContradiction (fun q => (nI_ge (show 1 < w by omega) w1) y4)
      have e57 : v_cFun_typeOf (nI f) (nI i) τ = nI (ty f i) := by
        unfold v_cFun_typeOf
        rw [show nI f * (30 : Int32) + nI i = nI (f * 30 + i) by rw [show (30 : Int32) = nI 30 from rfl, nI_mul, nI_add], jI_at_in (by omega) (by omega), show f * 30 + i = 30 * f + i by omega, (hC 57 _ (by decide) (by decide) (by simp [fs_cl_run])).1]
        exact p57 i (by omega)
      have e59 : v_cFun_strictOf (nI f) (nI i) τ = nI (spar pN ty V f i) := by
        unfold v_cFun_strictOf
        rw [show nI f * (30 : Int32) + nI i = nI (f * 30 + i) by rw [show (30 : Int32) = nI 30 from rfl, nI_mul, nI_add], jI_at_in (by omega) (by omega), show f * 30 + i = 30 * f + i by omega]
        exact (c5 i hi).1
      have e135 : ρ.1 135 (8 * f + i) = nI (ty f i) := by
        rw [(hR 135 _ (by decide) (by decide) (by decide) (by simp [fs_r_run])).1]; exact p135 i hi
      have hs2 := (c5 i hi).2.1
      refine ⟨if w = 0 then nI (ty f i) else nI (spar pN ty V f i), jx_i ρ 106 2 0, ?_, ?_, by rw [s_i_eq, u_eq rfl], IV2_2 h⟩
      · unfold p_cl_parameter
        rw [q1, if_neg (by decide), if_neg y1, e43, if_neg y2, if_neg y3, if_pos y4, e57, e59]
        by_cases z : w = 0
        · rw [z, if_neg (show ¬ ¬ nI 0 = 0 from fun q => q rfl), if_pos rfl]
        · rw [if_pos (nI_ne0 (by omega) (by omega)), if_neg z]
      · unfold p_r_parameter3 p_r_parameter3_37
        rw [q2, if_neg (fun q => q rfl), if_neg y1, nI_clamp (show f < 2 ^ 31 by omega), if_neg hfi, d1, if_neg y2, if_neg y3, if_pos y4, if_pos (by decide), show (8 : Int32) * nI f + nI i = nI (8 * f + i) by rw [show (8 : Int32) = nI 8 from rfl, nI_mul, nI_add], if_neg (nI_in (show 8 * f + i < 320 by omega) (by omega)), nI_clamp (show 8 * f + i < 2 ^ 31 by omega), e135, d5 i hi]
        by_cases z : w = 0
        · rw [z, if_neg (show ¬ ¬ nI 0 = 0 from fun q => q rfl), if_pos rfl, if_neg (show ¬ (nI (8 * f + i) < 0 ∨ 320 ≤ 8 * f + i) from fun z => by
            rcases z with z | z
            · exact nI_pos (by omega) z
            · omega)]
        · rw [if_pos (nI_ne0 (by omega) (by omega)), if_neg z]
          rcases (show spar pN ty V f i = 0 ∨ spar pN ty V f i = 1 by omega) with k | k
          · rw [k]; rfl
          · rw [k]; rfl
theorem call_value {τ ρ : jx_S} (h : IV2 τ ρ) (x1 x2 : Int32) : (∃ r ρ', p_cl_value x1 x2 τ = some (r, τ) ∧ p_r_value x1 x2 ρ = some (r, ρ') ∧ ρ'.1 106 2 = 0 ∧ IV2 τ ρ') ∨ ((v_cl_hasFunction x1 τ = 0 ∨ (v_cl_hasFunction x1 τ = 1 ∧ (x2 < 0 ∨ ¬ x2 < jI_at 40 (τ.1 53) x1))) ∧ ∃ ρ', p_r_value x1 x2 ρ = some (0, ρ') ∧ ρ'.1 106 2 = 1 ∧ IV2 τ ρ') := by
  have no : p_r_value_23 x1 x2 ρ = some (0, jx_i ρ 106 2 1) := by
    unfold p_r_value_23 p_r_value_28
    rw [if_neg (by decide)]
  have no2 : (jx_i ρ 106 2 1).1 106 2 = 1 := by rw [s_i_eq, u_eq rfl]
  rcases has_or h x1 with ⟨q1, q2⟩ | ⟨q1, q2, f, τ1, ρ1, E, G, F, nS, tS, R, pN, bN, lN', ty, V, rfl, hf, hUS, hC, hR⟩
  · right
    refine ⟨Or.inl q1, _, ?_, no2, IV2_2 h⟩
    unfold p_r_value
    rw [q2, if_pos (by decide)]; exact no
  · obtain ⟨hRP, e1, e2, e3⟩ := use_of hUS hC hR
    obtain ⟨hE, hEC, hER, hEV, hAP, hAN, hn, hUF, u⟩ := id hUS
    obtain ⟨_, _, ⟨_, _, _, _, p53, _⟩, ⟨_, _, _, _, p133, _⟩, ⟨_, _, _, pc, _⟩⟩ := hAP.2.2.2.2 f hf
    have hfi : ¬ (nI f < 0 ∨ 40 ≤ f) := fun z => by
      rcases z with z | z
      · exact nI_pos (by omega) z
      · omega
    have e53 : jI_at 40 (τ.1 53) (nI f) = nI (cnt (ty f) (pN f)) := by
      rw [jI_at_in (by omega) (by omega), (hC 53 _ (by decide) (by decide) (by simp [fs_cl_run])).1]; exact p53
    have e133 : ρ.1 133 f = nI (cnt (ty f) (pN f)) := by
      rw [(hR 133 _ (by decide) (by decide) (by decide) (by simp [fs_r_run])).1]; exact p133
    rw [e53]
    by_cases hx : x2 < 0 ∨ ¬ x2 < nI (cnt (ty f) (pN f))
    · right
      refine ⟨Or.inr ⟨q1, hx⟩, _, ?_, no2, IV2_2 h⟩
      unfold p_r_value
      rw [q2, if_neg (fun q => q rfl), nI_clamp (show f < 2 ^ 31 by omega), if_neg hfi, e133, no]
      by_cases y1 : x2 < 0
      · rw [if_pos y1]
      · rw [if_neg y1, if_neg (by
          rcases hx with q | q
          · exact absurd q y1
          · exact q)]
    · left
      have y1 : ¬ x2 < 0 := fun q => hx (Or.inl q)
      have y2 : x2 < nI (cnt (ty f) (pN f)) := Classical.byContradiction (fun q => hx (Or.inr q))
      obtain ⟨i, i1, rfl⟩ := nI_ofP y1
      have hi : i < cnt (ty f) (pN f) := Classical.byContradiction (fun q => (nI_nlt (a := i) (by omega) i1) y2)
      have ev : v_cAna_pointOfCase (nI f) (nI i) τ = nI (V f i) := by
        have := hAN.2.1 f hf i hi
        unfold v_cAna_pointOfCase at this ⊢
        rw [show τ.1 63 = τ1.1 63 from funext (fun j => (hC 63 j (by decide) (by decide) (by simp [fs_cl_run])).1), (hC 7 6 (by decide) (by decide) (by decide)).1]
        exact this
      have er : ρ.1 146 (1000 * f + i) = nI (V f i) := by
        rw [(hR 146 _ (by decide) (by decide) (by decide) (by simp [fs_r_run])).1]; exact hAN.2.2.1 f hf i hi
      refine ⟨nI (V f i), jx_i ρ 106 2 0, ?_, ?_, by rw [s_i_eq, u_eq rfl], IV2_2 h⟩
      · unfold p_cl_value
        rw [q1, if_neg (by decide), if_neg y1, e53, if_pos y2, ev]
      · unfold p_r_value p_r_value_28
        rw [q2, if_neg (fun q => q rfl), if_neg y1, nI_clamp (show f < 2 ^ 31 by omega), if_neg hfi, e133, if_pos y2, if_pos (by decide), show (1000 : Int32) * nI f + nI i = nI (1000 * f + i) by rw [show (1000 : Int32) = nI 1000 from rfl, nI_mul, nI_add], if_neg (nI_in (show 1000 * f + i < 40000 by omega) (by omega)), nI_clamp (show 1000 * f + i < 2 ^ 31 by omega), er]
