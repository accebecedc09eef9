/-! READER, 22: case. -/
theorem PR_hide2 {E : jEn} {f nf a n l : Nat} {sc : List Nat} {G : jGh} {t dn dep : Nat} {τ ρ : jx_S} (x y d' : Nat) (h : PR E f nf a n l (x :: y :: sc) G t dn dep τ ρ) : PR E f nf a n l sc G t dn d' (jx_i τ 5 5 (nI sc.length)) (jx_i (jx_i ρ 106 52 (nI sc.length)) 106 48 (nI d')) := by
  obtain ⟨hE, hA, hB, ⟨q1, q2, q3, q4, q5, q6, q7⟩, hS, hT, hN⟩ := id h
  obtain ⟨a0, a1, a2, a3, a4, a5, a6, a7⟩ := id hA
  obtain ⟨b0, b1, b2, b3, b4, b5, b6, b7, b8, b9, b10⟩ := id hB
  have hE1 := hE.1
  simp only [List.length_cons] at q6
  refine ⟨hE, ?_, ?_, ⟨q1, q2, q3, q4, q5, by omega, q7⟩, ?_, ?_, ?_⟩
  · exact ⟨EnvC_keep a0 (by simp (disch := first | assumption | decide | omega) only [nI_lit, cT_lt, cF_lt, cT_le, cF_le, cT_eq, cF_eq, nF_le, mF_eq, mG_eq, mT_lt, eq_self, nI_clamp, nI_add, Nat.add_zero, nI_sub, s_i_ne, s_i_eq, s_i_2, s_l_1, s_l_ne, s_l_eq, s_p_ne, s_p_eq, s_p_2, s_q_1, s_q_ne, s_q_eq, u_ne, u_eq, v_ne, v_eq, w_ne, w_eq, jI_at_in, jL_at_in, false_or, or_false, true_or, or_true, true_and, and_true, false_and, and_false, not_true_eq_false, not_false_eq_true, ↓reduceIte, Option.bind_some, Option.map_some]) (by simp (disch := first | assumption | decide | omega) only [nI_lit, cT_lt, cF_lt, cT_le, cF_le, cT_eq, cF_eq, nF_le, mF_eq, mG_eq, mT_lt, eq_self, nI_clamp, nI_add, Nat.add_zero, nI_sub, s_i_ne, s_i_eq, s_i_2, s_l_1, s_l_ne, s_l_eq, s_p_ne, s_p_eq, s_p_2, s_q_1, s_q_ne, s_q_eq, u_ne, u_eq, v_ne, v_eq, w_ne, w_eq, jI_at_in, jL_at_in, false_or, or_false, true_or, or_true, true_and, and_true, false_and, and_false, not_true_eq_false, not_false_eq_true, ↓reduceIte, Option.bind_some, Option.map_some]) (by simp (disch := first | assumption | decide | omega) only [nI_lit, cT_lt, cF_lt, cT_le, cF_le, cT_eq, cF_eq, nF_le, mF_eq, mG_eq, mT_lt, eq_self, nI_clamp, nI_add, Nat.add_zero, nI_sub, s_i_ne, s_i_eq, s_i_2, s_l_1, s_l_ne, s_l_eq, s_p_ne, s_p_eq, s_p_2, s_q_1, s_q_ne, s_q_eq, u_ne, u_eq, v_ne, v_eq, w_ne, w_eq, jI_at_in, jL_at_in, false_or, or_false, true_or, or_true, true_and, and_true, false_and, and_false, not_true_eq_false, not_false_eq_true, ↓reduceIte, Option.bind_some, Option.map_some]), by simp (disch := first | assumption | decide | omega) only [a1, nI_lit, cT_lt, cF_lt, cT_le, cF_le, cT_eq, cF_eq, nF_le, mF_eq, mG_eq, mT_lt, eq_self, nI_clamp, nI_add, Nat.add_zero, nI_sub, s_i_ne, s_i_eq, s_i_2, s_l_1, s_l_ne, s_l_eq, s_p_ne, s_p_eq, s_p_2, s_q_1, s_q_ne, s_q_eq, u_ne, u_eq, v_ne, v_eq, w_ne, w_eq, jI_at_in, jL_at_in, false_or, or_false, true_or, or_true, true_and, and_true, false_and, and_false, not_true_eq_false, not_false_eq_true, ↓reduceIte, Option.bind_some, Option.map_some], by simp (disch := first | assumption | decide | omega) only [a2, nI_lit, cT_lt, cF_lt, cT_le, cF_le, cT_eq, cF_eq, nF_le, mF_eq, mG_eq, mT_lt, eq_self, nI_clamp, nI_add, Nat.add_zero, nI_sub, s_i_ne, s_i_eq, s_i_2, s_l_1, s_l_ne, s_l_eq, s_p_ne, s_p_eq, s_p_2, s_q_1, s_q_ne, s_q_eq, u_ne, u_eq, v_ne, v_eq, w_ne, w_eq, jI_at_in, jL_at_in, false_or, or_false, true_or, or_true, true_and, and_true, false_and, and_false, not_true_eq_false, not_false_eq_true, ↓reduceIte, Option.bind_some, Option.map_some], by simp (disch := first | assumption | decide | omega) only [a3, nI_lit, cT_lt, cF_lt, cT_le, cF_le, cT_eq, cF_eq, nF_le, mF_eq, mG_eq, mT_lt, eq_self, nI_clamp, nI_add, Nat.add_zero, nI_sub, s_i_ne, s_i_eq, s_i_2, s_l_1, s_l_ne, s_l_eq, s_p_ne, s_p_eq, s_p_2, s_q_1, s_q_ne, s_q_eq, u_ne, u_eq, v_ne, v_eq, w_ne, w_eq, jI_at_in, jL_at_in, false_or, or_false, true_or, or_true, true_and, and_true, false_and, and_false, not_true_eq_false, not_false_eq_true, ↓reduceIte, Option.bind_some, Option.map_some], by simp (disch := first | assumption | decide | omega) only [a4, nI_lit, cT_lt, cF_lt, cT_le, cF_le, cT_eq, cF_eq, nF_le, mF_eq, mG_eq, mT_lt, eq_self, nI_clamp, nI_add, Nat.add_zero, nI_sub, s_i_ne, s_i_eq, s_i_2, s_l_1, s_l_ne, s_l_eq, s_p_ne, s_p_eq, s_p_2, s_q_1, s_q_ne, s_q_eq, u_ne, u_eq, v_ne, v_eq, w_ne, w_eq, jI_at_in, jL_at_in, false_or, or_false, true_or, or_true, true_and, and_true, false_and, and_false, not_true_eq_false, not_false_eq_true, ↓reduceIte, Option.bind_some, Option.map_some], by simp (disch := first | assumption | decide | omega) only [a5, nI_lit, cT_lt, cF_lt, cT_le, cF_le, cT_eq, cF_eq, nF_le, mF_eq, mG_eq, mT_lt, eq_self, nI_clamp, nI_add, Nat.add_zero, nI_sub, s_i_ne, s_i_eq, s_i_2, s_l_1, s_l_ne, s_l_eq, s_p_ne, s_p_eq, s_p_2, s_q_1, s_q_ne, s_q_eq, u_ne, u_eq, v_ne, v_eq, w_ne, w_eq, jI_at_in, jL_at_in, false_or, or_false, true_or, or_true, true_and, and_true, false_and, and_false, not_true_eq_false, not_false_eq_true, ↓reduceIte, Option.bind_some, Option.map_some], by simp (disch := first | assumption | decide | omega) only [nI_lit, cT_lt, cF_lt, cT_le, cF_le, cT_eq, cF_eq, nF_le, mF_eq, mG_eq, mT_lt, eq_self, nI_clamp, nI_add, Nat.add_zero, nI_sub, s_i_ne, s_i_eq, s_i_2, s_l_1, s_l_ne, s_l_eq, s_p_ne, s_p_eq, s_p_2, s_q_1, s_q_ne, s_q_eq, u_ne, u_eq, v_ne, v_eq, w_ne, w_eq, jI_at_in, jL_at_in, false_or, or_false, true_or, or_true, true_and, and_true, false_and, and_false, not_true_eq_false, not_false_eq_true, ↓reduceIte, Option.bind_some, Option.map_some], by simp (disch := first | assumption | decide | omega) only [a7, nI_lit, cT_lt, cF_lt, cT_le, cF_le, cT_eq, cF_eq, nF_le, mF_eq, mG_eq, mT_lt, eq_self, nI_clamp, nI_add, Nat.add_zero, nI_sub, s_i_ne, s_i_eq, s_i_2, s_l_1, s_l_ne, s_l_eq, s_p_ne, s_p_eq, s_p_2, s_q_1, s_q_ne, s_q_eq, u_ne, u_eq, v_ne, v_eq, w_ne, w_eq, jI_at_in, jL_at_in, false_or, or_false, true_or, or_true, true_and, and_true, false_and, and_false, not_true_eq_false, not_false_eq_true, ↓reduceIte, Option.bind_some, Option.map_some]⟩
  · exact ⟨EnvR_keep b0 (by simp (disch := first | assumption | decide | omega) only [nI_lit, cT_lt, cF_lt, cT_le, cF_le, cT_eq, cF_eq, nF_le, mF_eq, mG_eq, mT_lt, eq_self, nI_clamp, nI_add, Nat.add_zero, nI_sub, s_i_ne, s_i_eq, s_i_2, s_l_1, s_l_ne, s_l_eq, s_p_ne, s_p_eq, s_p_2, s_q_1, s_q_ne, s_q_eq, u_ne, u_eq, v_ne, v_eq, w_ne, w_eq, jI_at_in, jL_at_in, false_or, or_false, true_or, or_true, true_and, and_true, false_and, and_false, not_true_eq_false, not_false_eq_true, ↓reduceIte, Option.bind_some, Option.map_some]) (by simp (disch := first | assumption | decide | omega) only [nI_lit, cT_lt, cF_lt, cT_le, cF_le, cT_eq, cF_eq, nF_le, mF_eq, mG_eq, mT_lt, eq_self, nI_clamp, nI_add, Nat.add_zero, nI_sub, s_i_ne, s_i_eq, s_i_2, s_l_1, s_l_ne, s_l_eq, s_p_ne, s_p_eq, s_p_2, s_q_1, s_q_ne, s_q_eq, u_ne, u_eq, v_ne, v_eq, w_ne, w_eq, jI_at_in, jL_at_in, false_or, or_false, true_or, or_true, true_and, and_true, false_and, and_false, not_true_eq_false, not_false_eq_true, ↓reduceIte, Option.bind_some, Option.map_some]) (by simp (disch := first | assumption | decide | omega) only [nI_lit, cT_lt, cF_lt, cT_le, cF_le, cT_eq, cF_eq, nF_le, mF_eq, mG_eq, mT_lt, eq_self, nI_clamp, nI_add, Nat.add_zero, nI_sub, s_i_ne, s_i_eq, s_i_2, s_l_1, s_l_ne, s_l_eq, s_p_ne, s_p_eq, s_p_2, s_q_1, s_q_ne, s_q_eq, u_ne, u_eq, v_ne, v_eq, w_ne, w_eq, jI_at_in, jL_at_in, false_or, or_false, true_or, or_true, true_and, and_true, false_and, and_false, not_true_eq_false, not_false_eq_true, ↓reduceIte, Option.bind_some, Option.map_some]) (by simp (disch := first | assumption | decide | omega) only [nI_lit, cT_lt, cF_lt, cT_le, cF_le, cT_eq, cF_eq, nF_le, mF_eq, mG_eq, mT_lt, eq_self, nI_clamp, nI_add, Nat.add_zero, nI_sub, s_i_ne, s_i_eq, s_i_2, s_l_1, s_l_ne, s_l_eq, s_p_ne, s_p_eq, s_p_2, s_q_1, s_q_ne, s_q_eq, u_ne, u_eq, v_ne, v_eq, w_ne, w_eq, jI_at_in, jL_at_in, false_or, or_false, true_or, or_true, true_and, and_true, false_and, and_false, not_true_eq_false, not_false_eq_true, ↓reduceIte, Option.bind_some, Option.map_some]) (by simp (disch := first | assumption | decide | omega) only [nI_lit, cT_lt, cF_lt, cT_le, cF_le, cT_eq, cF_eq, nF_le, mF_eq, mG_eq, mT_lt, eq_self, nI_clamp, nI_add, Nat.add_zero, nI_sub, s_i_ne, s_i_eq, s_i_2, s_l_1, s_l_ne, s_l_eq, s_p_ne, s_p_eq, s_p_2, s_q_1, s_q_ne, s_q_eq, u_ne, u_eq, v_ne, v_eq, w_ne, w_eq, jI_at_in, jL_at_in, false_or, or_false, true_or, or_true, true_and, and_true, false_and, and_false, not_true_eq_false, not_false_eq_true, ↓reduceIte, Option.bind_some, Option.map_some]), by simp (disch := first | assumption | decide | omega) only [b1, nI_lit, cT_lt, cF_lt, cT_le, cF_le, cT_eq, cF_eq, nF_le, mF_eq, mG_eq, mT_lt, eq_self, nI_clamp, nI_add, Nat.add_zero, nI_sub, s_i_ne, s_i_eq, s_i_2, s_l_1, s_l_ne, s_l_eq, s_p_ne, s_p_eq, s_p_2, s_q_1, s_q_ne, s_q_eq, u_ne, u_eq, v_ne, v_eq, w_ne, w_eq, jI_at_in, jL_at_in, false_or, or_false, true_or, or_true, true_and, and_true, false_and, and_false, not_true_eq_false, not_false_eq_true, ↓reduceIte, Option.bind_some, Option.map_some], by simp (disch := first | assumption | decide | omega) only [b2, nI_lit, cT_lt, cF_lt, cT_le, cF_le, cT_eq, cF_eq, nF_le, mF_eq, mG_eq, mT_lt, eq_self, nI_clamp, nI_add, Nat.add_zero, nI_sub, s_i_ne, s_i_eq, s_i_2, s_l_1, s_l_ne, s_l_eq, s_p_ne, s_p_eq, s_p_2, s_q_1, s_q_ne, s_q_eq, u_ne, u_eq, v_ne, v_eq, w_ne, w_eq, jI_at_in, jL_at_in, false_or, or_false, true_or, or_true, true_and, and_true, false_and, and_false, not_true_eq_false, not_false_eq_true, ↓reduceIte, Option.bind_some, Option.map_some], by simp (disch := first | assumption | decide | omega) only [b3, nI_lit, cT_lt, cF_lt, cT_le, cF_le, cT_eq, cF_eq, nF_le, mF_eq, mG_eq, mT_lt, eq_self, nI_clamp, nI_add, Nat.add_zero, nI_sub, s_i_ne, s_i_eq, s_i_2, s_l_1, s_l_ne, s_l_eq, s_p_ne, s_p_eq, s_p_2, s_q_1, s_q_ne, s_q_eq, u_ne, u_eq, v_ne, v_eq, w_ne, w_eq, jI_at_in, jL_at_in, false_or, or_false, true_or, or_true, true_and, and_true, false_and, and_false, not_true_eq_false, not_false_eq_true, ↓reduceIte, Option.bind_some, Option.map_some], by simp (disch := first | assumption | decide | omega) only [b4, nI_lit, cT_lt, cF_lt, cT_le, cF_le, cT_eq, cF_eq, nF_le, mF_eq, mG_eq, mT_lt, eq_self, nI_clamp, nI_add, Nat.add_zero, nI_sub, s_i_ne, s_i_eq, s_i_2, s_l_1, s_l_ne, s_l_eq, s_p_ne, s_p_eq, s_p_2, s_q_1, s_q_ne, s_q_eq, u_ne, u_eq, v_ne, v_eq, w_ne, w_eq, jI_at_in, jL_at_in, false_or, or_false, true_or, or_true, true_and, and_true, false_and, and_false, not_true_eq_false, not_false_eq_true, ↓reduceIte, Option.bind_some, Option.map_some], by simp (disch := first | assumption | decide | omega) only [b5, nI_lit, cT_lt, cF_lt, cT_le, cF_le, cT_eq, cF_eq, nF_le, mF_eq, mG_eq, mT_lt, eq_self, nI_clamp, nI_add, Nat.add_zero, nI_sub, s_i_ne, s_i_eq, s_i_2, s_l_1, s_l_ne, s_l_eq, s_p_ne, s_p_eq, s_p_2, s_q_1, s_q_ne, s_q_eq, u_ne, u_eq, v_ne, v_eq, w_ne, w_eq, jI_at_in, jL_at_in, false_or, or_false, true_or, or_true, true_and, and_true, false_and, and_false, not_true_eq_false, not_false_eq_true, ↓reduceIte, Option.bind_some, Option.map_some], by simp (disch := first | assumption | decide | omega) only [b6, nI_lit, cT_lt, cF_lt, cT_le, cF_le, cT_eq, cF_eq, nF_le, mF_eq, mG_eq, mT_lt, eq_self, nI_clamp, nI_add, Nat.add_zero, nI_sub, s_i_ne, s_i_eq, s_i_2, s_l_1, s_l_ne, s_l_eq, s_p_ne, s_p_eq, s_p_2, s_q_1, s_q_ne, s_q_eq, u_ne, u_eq, v_ne, v_eq, w_ne, w_eq, jI_at_in, jL_at_in, false_or, or_false, true_or, or_true, true_and, and_true, false_and, and_false, not_true_eq_false, not_false_eq_true, ↓reduceIte, Option.bind_some, Option.map_some], by simp (disch := first | assumption | decide | omega) only [nI_lit, cT_lt, cF_lt, cT_le, cF_le, cT_eq, cF_eq, nF_le, mF_eq, mG_eq, mT_lt, eq_self, nI_clamp, nI_add, Nat.add_zero, nI_sub, s_i_ne, s_i_eq, s_i_2, s_l_1, s_l_ne, s_l_eq, s_p_ne, s_p_eq, s_p_2, s_q_1, s_q_ne, s_q_eq, u_ne, u_eq, v_ne, v_eq, w_ne, w_eq, jI_at_in, jL_at_in, false_or, or_false, true_or, or_true, true_and, and_true, false_and, and_false, not_true_eq_false, not_false_eq_true, ↓reduceIte, Option.bind_some, Option.map_some], by simp (disch := first | assumption | decide | omega) only [b8, nI_lit, cT_lt, cF_lt, cT_le, cF_le, cT_eq, cF_eq, nF_le, mF_eq, mG_eq, mT_lt, eq_self, nI_clamp, nI_add, Nat.add_zero, nI_sub, s_i_ne, s_i_eq, s_i_2, s_l_1, s_l_ne, s_l_eq, s_p_ne, s_p_eq, s_p_2, s_q_1, s_q_ne, s_q_eq, u_ne, u_eq, v_ne, v_eq, w_ne, w_eq, jI_at_in, jL_at_in, false_or, or_false, true_or, or_true, true_and, and_true, false_and, and_false, not_true_eq_false, not_false_eq_true, ↓reduceIte, Option.bind_some, Option.map_some], by simp (disch := first | assumption | decide | omega) only [b9, nI_lit, cT_lt, cF_lt, cT_le, cF_le, cT_eq, cF_eq, nF_le, mF_eq, mG_eq, mT_lt, eq_self, nI_clamp, nI_add, Nat.add_zero, nI_sub, s_i_ne, s_i_eq, s_i_2, s_l_1, s_l_ne, s_l_eq, s_p_ne, s_p_eq, s_p_2, s_q_1, s_q_ne, s_q_eq, u_ne, u_eq, v_ne, v_eq, w_ne, w_eq, jI_at_in, jL_at_in, false_or, or_false, true_or, or_true, true_and, and_true, false_and, and_false, not_true_eq_false, not_false_eq_true, ↓reduceIte, Option.bind_some, Option.map_some], by simp (disch := first | assumption | decide | omega) only [nI_lit, cT_lt, cF_lt, cT_le, cF_le, cT_eq, cF_eq, nF_le, mF_eq, mG_eq, mT_lt, eq_self, nI_clamp, nI_add, Nat.add_zero, nI_sub, s_i_ne, s_i_eq, s_i_2, s_l_1, s_l_ne, s_l_eq, s_p_ne, s_p_eq, s_p_2, s_q_1, s_q_ne, s_q_eq, u_ne, u_eq, v_ne, v_eq, w_ne, w_eq, jI_at_in, jL_at_in, false_or, or_false, true_or, or_true, true_and, and_true, false_and, and_false, not_true_eq_false, not_false_eq_true, ↓reduceIte, Option.bind_some, Option.map_some]⟩
  · simp (disch := first | assumption | decide | omega) only [nI_lit, cT_lt, cF_lt, cT_le, cF_le, cT_eq, cF_eq, nF_le, mF_eq, mG_eq, mT_lt, eq_self, nI_clamp, nI_add, Nat.add_zero, nI_sub, s_i_ne, s_i_eq, s_i_2, s_l_1, s_l_ne, s_l_eq, s_p_ne, s_p_eq, s_p_2, s_q_1, s_q_ne, s_q_eq, u_ne, u_eq, v_ne, v_eq, w_ne, w_eq, jI_at_in, jL_at_in, false_or, or_false, true_or, or_true, true_and, and_true, false_and, and_false, not_true_eq_false, not_false_eq_true, ↓reduceIte, Option.bind_some, Option.map_some]; exact hS.2.2.2.2.2.2.2.2
  · intro i hi; simp (disch := first | assumption | decide | omega) only [nI_lit, cT_lt, cF_lt, cT_le, cF_le, cT_eq, cF_eq, nF_le, mF_eq, mG_eq, mT_lt, eq_self, nI_clamp, nI_add, Nat.add_zero, nI_sub, s_i_ne, s_i_eq, s_i_2, s_l_1, s_l_ne, s_l_eq, s_p_ne, s_p_eq, s_p_2, s_q_1, s_q_ne, s_q_eq, u_ne, u_eq, v_ne, v_eq, w_ne, w_eq, jI_at_in, jL_at_in, false_or, or_false, true_or, or_true, true_and, and_true, false_and, and_false, not_true_eq_false, not_false_eq_true, ↓reduceIte, Option.bind_some, Option.map_some]; exact hT i hi
  · intro k k1 k2
    obtain ⟨u1, u2⟩ := hN k k1 k2
    exact ⟨NodeOK_keep (NK_rows (rowsK_same (rs := crN) (same_i same_rfl (by decide)) (by decide)) (rowsK_same (rs := rrN) (same_i (same_i same_rfl (by decide)) (by decide)) (by decide))) (fun _ _ => rfl) k2 (by omega) u1, u2.1, CsT_keep u2.2 (fun j _ => by simp (disch := first | assumption | decide | omega) only [nI_lit, cT_lt, cF_lt, cT_le, cF_le, cT_eq, cF_eq, nF_le, mF_eq, mG_eq, mT_lt, eq_self, nI_clamp, nI_add, Nat.add_zero, nI_sub, s_i_ne, s_i_eq, s_i_2, s_l_1, s_l_ne, s_l_eq, s_p_ne, s_p_eq, s_p_2, s_q_1, s_q_ne, s_q_eq, u_ne, u_eq, v_ne, v_eq, w_ne, w_eq, jI_at_in, jL_at_in, false_or, or_false, true_or, or_true, true_and, and_true, false_and, and_false, not_true_eq_false, not_false_eq_true, ↓reduceIte, Option.bind_some, Option.map_some]) (by simp (disch := first | assumption | decide | omega) only [nI_lit, cT_lt, cF_lt, cT_le, cF_le, cT_eq, cF_eq, nF_le, mF_eq, mG_eq, mT_lt, eq_self, nI_clamp, nI_add, Nat.add_zero, nI_sub, s_i_ne, s_i_eq, s_i_2, s_l_1, s_l_ne, s_l_eq, s_p_ne, s_p_eq, s_p_2, s_q_1, s_q_ne, s_q_eq, u_ne, u_eq, v_ne, v_eq, w_ne, w_eq, jI_at_in, jL_at_in, false_or, or_false, true_or, or_true, true_and, and_true, false_and, and_false, not_true_eq_false, not_false_eq_true, ↓reduceIte, Option.bind_some, Option.map_some]) (by simp (disch := first | assumption | decide | omega) only [nI_lit, cT_lt, cF_lt, cT_le, cF_le, cT_eq, cF_eq, nF_le, mF_eq, mG_eq, mT_lt, eq_self, nI_clamp, nI_add, Nat.add_zero, nI_sub, s_i_ne, s_i_eq, s_i_2, s_l_1, s_l_ne, s_l_eq, s_p_ne, s_p_eq, s_p_2, s_q_1, s_q_ne, s_q_eq, u_ne, u_eq, v_ne, v_eq, w_ne, w_eq, jI_at_in, jL_at_in, false_or, or_false, true_or, or_true, true_and, and_true, false_and, and_false, not_true_eq_false, not_false_eq_true, ↓reduceIte, Option.bind_some, Option.map_some]) (Nat.le_refl _)⟩
theorem ro7 (x y : Int32) (σ : jx_S) : p_r_readOne (nI 7) x y σ = ((p_r_expect (nI 11) σ).bind fun q18 => ((p_r_expect (nI 12) q18).bind fun q19 => ((p_r_expect (nI 21) q19).bind fun q20 => ((p_r_later (nI 8) x (nI 0) q20).bind fun q21 => ((p_r_later (nI 1) (nI 0) (nI 0) q21).bind fun q22 => (some (q22))))))) := by
  unfold p_r_readOne
  simp (disch := first | assumption | decide | omega) only [nI_lit, cT_lt, cF_lt, cT_le, cF_le, cT_eq, cF_eq, nF_le, mF_eq, mG_eq, mT_lt, eq_self, nI_clamp, nI_add, Nat.add_zero, nI_sub, s_i_ne, s_i_eq, s_i_2, s_l_1, s_l_ne, s_l_eq, s_p_ne, s_p_eq, s_p_2, s_q_1, s_q_ne, s_q_eq, u_ne, u_eq, v_ne, v_eq, w_ne, w_eq, jI_at_in, jL_at_in, false_or, or_false, true_or, or_true, true_and, and_true, false_and, and_false, not_true_eq_false, not_false_eq_true, ↓reduceIte, Option.bind_some, Option.map_some]
theorem ro8 (x y : Int32) (σ : jx_S) : p_r_readOne (nI 8) x y σ = p_r_bar x σ := by
  unfold p_r_readOne
  simp (disch := first | assumption | decide | omega) only [ob_id, nI_lit, cT_lt, cF_lt, cT_le, cF_le, cT_eq, cF_eq, nF_le, mF_eq, mG_eq, mT_lt, eq_self, nI_clamp, nI_add, Nat.add_zero, nI_sub, s_i_ne, s_i_eq, s_i_2, s_l_1, s_l_ne, s_l_eq, s_p_ne, s_p_eq, s_p_2, s_q_1, s_q_ne, s_q_eq, u_ne, u_eq, v_ne, v_eq, w_ne, w_eq, jI_at_in, jL_at_in, false_or, or_false, true_or, or_true, true_and, and_true, false_and, and_false, not_true_eq_false, not_false_eq_true, ↓reduceIte, Option.bind_some, Option.map_some]
theorem ro9 (x y : Int32) (σ : jx_S) : p_r_readOne (nI 9) x y σ = ((p_r_take (jx_i (jx_i σ 106 52 ((σ.1 106 52) - (2 : Int32))) 106 48 ((σ.1 106 48) - (1 : Int32)))).bind fun q24 => ((p_r_take q24.2).bind fun q25 => ((p_r_take q25.2).bind fun q26 => ((p_r_node (nI 10) x q26.1 q25.1 q24.1 q26.2).bind fun q27 => (if q27.1 < 0 ∨ 3000 ≤ (q27.1).toNatClampNeg then none else (if q27.1 < 0 ∨ 3000 ≤ (q27.1).toNatClampNeg then none else ((p_r_give q27.1 (jx_i (jx_i q27.2 117 (q27.1).toNatClampNeg y) 118 (q27.1).toNatClampNeg (y + (1 : Int32)))).bind fun q28 => (some (q28))))))))) := by
  unfold p_r_readOne
  rw [if_neg (by decide), if_neg (by decide), if_neg (by decide), if_neg (by decide), if_neg (by decide), if_neg (by decide), if_neg (by decide), if_neg (by decide), if_pos (show nI 9 = 9 from rfl)]
  rfl
theorem of_step {E : jEn} {f nf a n l : Nat} {sc : List Nat} {G : jGh} {t dn dep : Nat} {τ ρ : jx_S} (x : Int32) (hP : PR E f nf a n l sc G t dn dep τ ρ) (ht : t + 1 < 4000) :
    ∃ τ1 τ2 τ3 ρ3, p_cRea_pass (nI 11) τ = some τ1 ∧ p_cRea_pass (nI 12) τ1 = some τ2 ∧ p_cRea_pass (nI 21) τ2 = some τ3 ∧ p_r_readOne (nI 7) x (nI 0) ρ = some ρ3 ∧ (∀ y, p_r_readOne (nI 7) x y ρ = some ρ3) ∧ ((∃ t' s x, FR t' s x τ3 ρ3) ∨ (a + 2 < eC E ∧ PR E f nf (a + 3) n l sc G (t + 2) dn dep τ3 ρ3 ∧ KP f n l sc.length t dn τ ρ τ3 ρ3 ∧ ρ3.1 130 = ρ.1 130 ∧ ρ3.1 138 t = nI 8 ∧ ρ3.1 139 t = x ∧ ρ3.1 138 (t + 1) = nI 1)) := by
  obtain ⟨τ1, ρ1, r1, r2, r3⟩ := pass2 11 (by omega) (by omega) (Or.inr hP)
  have X1 : (∃ x, FR t sc.length x τ1 ρ1) ∨ PR E f nf (a + 1) n l sc G t dn dep τ1 ρ1 := r3.imp id (fun q => q.2.2.1)
  obtain ⟨τ2, ρ2, s1, s2, s3⟩ := pass2 12 (by omega) (by omega) X1
  have X2 : (∃ x, FR t sc.length x τ2 ρ2) ∨ PR E f nf (a + 2) n l sc G t dn dep τ2 ρ2 := s3.imp id (fun q => q.2.2.1)
  obtain ⟨τ3, ρ3, u1, u2, u3⟩ := pass2 21 (by omega) (by omega) X2
  have hex : ∀ ρ4 ρ5, p_r_later (nI 8) x (nI 0) ρ3 = some ρ4 → p_r_later (nI 1) (nI 0) (nI 0) ρ4 = some ρ5 → ∀ y, p_r_readOne (nI 7) x y ρ = some ρ5 := by
    intro ρ4 ρ5 q1 q2 y
    rw [ro7, r2, Option.bind_some, s2, Option.bind_some, u2, Option.bind_some, q1, Option.bind_some, q2, Option.bind_some]
  rcases u3 with ⟨z, u3⟩ | ⟨u3, u4, u5, u6, u7⟩
  · obtain ⟨w1, w2⟩ := FR_ltr (nI 8) x (nI 0) u3 (by omega)
    obtain ⟨w3, w4⟩ := FR_ltr (nI 1) (nI 0) (nI 0) w2 (by omega)
    exact ⟨τ1, τ2, τ3, _, r1, s1, u1, hex _ _ w1 w3 _, hex _ _ w1 w3, Or.inl ⟨_, _, _, w4⟩⟩
  · rcases s3 with ⟨z, s3⟩ | ⟨s3, s4, s5, s6, s7⟩
    · exfalso
      have n2 := s3.1
      rw [told_pass n2 (by decide)] at u1
      cases u1
      exact n2 u5.2.1.2.1
    rcases r3 with ⟨z, r3⟩ | ⟨r3, r4, r5, r6, r7⟩
    · exfalso
      have n2 := r3.1
      rw [told_pass n2 (by decide)] at s1
      cases s1
      exact n2 s5.2.1.2.1
    obtain ⟨l1, l2, l3, l4, l5, l6, l7⟩ := PR_ltr (nI 8) x (nI 0) u5 (by omega)
    obtain ⟨m1, m2, m3, m4, m5, m6, m7⟩ := PR_ltr (nI 1) (nI 0) (nI 0) l2 (by omega)
    have L : ∀ x : Nat, x ≤ x := Nat.le_refl
    refine ⟨τ1, τ2, τ3, _, r1, s1, u1, hex _ _ l1 m1 _, hex _ _ l1 m1, Or.inr ⟨by omega, m2, KP_trans (KP_trans (KP_trans (KP_trans r6 s6 (L _) (L _) (L _) (L _) (L _)) u6 (L _) (L _) (L _) (L _) (L _)) l3 (L _) (L _) (L _) (L _) (L _)) m3 (L _) (L _) (L _) (Nat.le_succ t) (L _), by rw [m4, l4, u7, s7, r7], ?_, ?_, m5⟩⟩
    · rw [m3.2.2.2.1 138 (by decide) t (by omega)]; exact l5
    · rw [m3.2.2.2.1 139 (by decide) t (by omega)]; exact l6
theorem bar_step {E : jEn} {f nf a n l : Nat} {sc : List Nat} {G : jGh} {t dn dep : Nat} {τ ρ : jx_S} (x : Int32) (hP : PR E f nf a n l sc G t dn dep τ ρ) (ht : t + 1 < 4000) :
    ∃ τ1 v2 τ2 τ3 v4 τ4 τ5 ρ7, p_cRea_pass (nI 22) τ = some τ1 ∧ p_cRea_readLocal 0 τ1 = some (v2, τ2) ∧ p_cRea_pass (nI 18) τ2 = some τ3 ∧ p_cRea_readLocal 1 τ3 = some (v4, τ4) ∧ p_cRea_pass (nI 21) τ4 = some τ5 ∧ p_r_bar x ρ = some ρ7 ∧ ((τ5.1 1 0 ≠ 0 ∧ ∃ t' s x, FR t' s x τ5 ρ7) ∨ (v2 = nI l ∧ v4 = nI (l + 1) ∧ l + 1 < 30 ∧ a + 4 < eC E ∧ ∃ τ7, p_cRea_show (nI l) τ5 = some (shw τ5 sc.length l) ∧ p_cRea_show (nI (l + 1)) (shw τ5 sc.length l) = some τ7 ∧ PR E f nf (a + 5) n (l + 2) ((l + 1) :: l :: sc) G (t + 2) dn dep τ7 ρ7 ∧ KP f n l sc.length t dn τ ρ τ7 ρ7 ∧ ρ7.1 130 = ρ.1 130 ∧ ρ7.1 138 t = nI 9 ∧ ρ7.1 139 t = x ∧ ρ7.1 140 t = nI l ∧ (ρ7.1 138 (t + 1) = nI 1 ∧ τ7.1 57 (30 * f + l) = nI 0 ∧ τ7.1 57 (30 * f + (l + 1)) = nI 1))) := by
  have hb := PR_bounds hP
  obtain ⟨τ1, ρ1, r1, r2, r3⟩ := pass2 22 (by omega) (by omega) (Or.inr hP)
  have X1 : (∃ x, FR t sc.length x τ1 ρ1) ∨ PR E f nf (a + 1) n l sc G t dn dep τ1 ρ1 := r3.imp id (fun q => q.2.2.1)
  obtain ⟨v2, w2, τ2, ρ2, s1, s2, s3⟩ := declare2 0 (Or.inl rfl) X1
  have X2 : (∃ x, FR t sc.length x τ2 ρ2) ∨ PR E f nf (a + 2) n (l + 1) sc G t dn dep τ2 ρ2 := s3.imp id (fun q => q.2.2.2.2.2.1)
  obtain ⟨τ3, ρ3, u1, u2, u3⟩ := pass2 18 (by omega) (by omega) X2
  have X3 : (∃ x, FR t sc.length x τ3 ρ3) ∨ PR E f nf (a + 3) n (l + 1) sc G t dn dep τ3 ρ3 := u3.imp id (fun q => q.2.2.1)
  obtain ⟨v4, w4, τ4, ρ4, y1, y2, y3⟩ := declare2 1 (Or.inr rfl) X3
  have X4 : (∃ x, FR t sc.length x τ4 ρ4) ∨ PR E f nf (a + 4) n (l + 2) sc G t dn dep τ4 ρ4 := y3.imp id (fun q => q.2.2.2.2.2.1)
  obtain ⟨τ5, ρ5, z1, z2, z3⟩ := pass2 21 (by omega) (by omega) X4
  have hex : ∀ ρ6 ρ7 ρ8 ρ9, p_r_enter w2 (ρ1.1 106 40) ρ5 = some ρ6 → p_r_enter w4 (ρ3.1 106 40) ρ6 = some ρ7 → p_r_later (nI 9) x w2 ρ7 = some ρ8 → p_r_later (nI 1) (nI 0) (nI 0) ρ8 = some ρ9 → p_r_bar x ρ = some ρ9 := by
    intro ρ6 ρ7 ρ8 ρ9 q1 q2 q3 q4
    unfold p_r_bar
    show ((p_r_expect (nI 22) ρ).bind _) = _
    rw [r2, Option.bind_some, s2, Option.bind_some]
    show ((p_r_expect (nI 18) ρ2).bind _) = _
    rw [u2, Option.bind_some, y2, Option.bind_some]
    show ((p_r_expect (nI 21) ρ4).bind _) = _
    rw [z2, Option.bind_some, q1, Option.bind_some, q2, Option.bind_some]
    show ((p_r_later (nI 9) x w2 ρ7).bind _) = _
    rw [q3, Option.bind_some]
    show ((p_r_later (nI 1) (nI 0) (nI 0) ρ8).bind _) = _
    rw [q4, Option.bind_some]
  rcases z3 with ⟨z, z3⟩ | ⟨z3, z4, z5, z6, z7⟩
  · obtain ⟨ρ6, g1, g2⟩ := FR_ent w2 (ρ1.1 106 40) z3 (by omega)
    obtain ⟨ρ7, g3, g4⟩ := FR_ent w4 (ρ3.1 106 40) g2 (by omega)
    obtain ⟨g5, g6⟩ := FR_ltr (nI 9) x w2 g4 (by omega)
    obtain ⟨g7, g8⟩ := FR_ltr (nI 1) (nI 0) (nI 0) g6 (by omega)
    exact ⟨τ1, v2, τ2, τ3, v4, τ4, τ5, _, r1, s1, u1, y1, z1, hex _ _ _ _ g1 g3 g5 g7, Or.inl ⟨g8.1, _, _, _, g8⟩⟩
  · rcases y3 with ⟨z, y3⟩ | ⟨y3, y4, y5, y6, y7, y8, y9, y10, y11⟩
    · exfalso
      have n2 := y3.1
      rw [told_pass n2 (by decide)] at z1
      cases z1
      exact n2 z5.2.1.2.1
    rcases u3 with ⟨z, u3⟩ | ⟨u3, u4, u5, u6, u7⟩
    · exfalso
      have n2 := u3.1
      rw [told_local n2] at y1
      cases y1
      exact n2 y8.2.1.2.1
    rcases s3 with ⟨z, s3⟩ | ⟨s3, s4, s5, s6, s7, s8, s9, s10, s11⟩
    · exfalso
      have n2 := s3.1
      rw [told_pass n2 (by decide)] at u1
      cases u1
      exact n2 u5.2.1.2.1
    rcases r3 with ⟨z, r3⟩ | ⟨r3, r4, r5, r6, r7⟩
    · exfalso
      have n2 := r3.1
      rw [told_local n2] at s1
      cases s1
      exact n2 s8.2.1.2.1
    subst s3 s4 y3 y4
    have h1 : ρ1.1 106 40 = nI (a + 1) := r5.2.2.1.2.2.2.1
    have h3 : ρ3.1 106 40 = nI (a + 3) := u5.2.2.1.2.2.2.1
    rw [h1, h3] at hex
    have hb5 := PR_bounds z5
    have e55 : τ5.1 55 (30 * f + l) = nI (a + 1) := by
      rw [z6.2.2.2.2.2.2.1 55 (by decide) _ (by omega), y9.2.2.2.2.2.2.1 55 (by decide) _ (by omega), u6.2.2.2.2.2.2.1 55 (by decide) _ (by omega)]
      exact s11.1
    have e55b : τ5.1 55 (30 * f + (l + 1)) = nI (a + 3) := by
      rw [z6.2.2.2.2.2.2.1 55 (by decide) _ (by omega)]
      exact y11.1
    have e57 : τ5.1 57 (30 * f + l) = nI 0 := by
      rw [z6.2.2.2.2.2.2.1 57 (by decide) _ (by omega), y9.2.2.2.2.2.2.1 57 (by decide) _ (by omega), u6.2.2.2.2.2.2.1 57 (by decide) _ (by omega)]
      exact s11.2
    have e57b : τ5.1 57 (30 * f + (l + 1)) = nI 1 := by
      rw [z6.2.2.2.2.2.2.1 57 (by decide) _ (by omega)]
      exact y11.2
    obtain ⟨A1, A2, A3, A4, A5⟩ := PR_show l (a + 1) z5 (by omega) (by omega) e55 (by omega) s5
    obtain ⟨B1, B2, B3, B4, B5⟩ := PR_show (l + 1) (a + 3) A3 (by omega) (by simp only [List.length_cons]; omega) (by unfold shw; rw [s_i_ne (by decide), s_p_ne (by decide)]; exact e55b) (by omega) y5
    obtain ⟨l1, l2, l3, l4, l5, l6, l7⟩ := PR_ltr (nI 9) x (nI l) B3 (by omega)
    obtain ⟨m1, m2, m3, m4, m5, m6, m7⟩ := PR_ltr (nI 1) (nI 0) (nI 0) l2 (by omega)
    have L : ∀ x : Nat, x ≤ x := Nat.le_refl
    refine ⟨τ1, nI l, τ2, τ3, nI (l + 1), τ4, τ5, _, r1, s1, u1, y1, z1, hex _ _ _ _ A2 B2 l1 m1, Or.inr ⟨rfl, rfl, by omega, by omega, _, A1, B1, m2, ?_, ?_, ?_, ?_, ?_, m5, by unfold shw; rw [s_i_ne (by decide), s_p_ne (by decide), s_i_ne (by decide), s_p_ne (by decide)]; exact e57, by unfold shw; rw [s_i_ne (by decide), s_p_ne (by decide), s_i_ne (by decide), s_p_ne (by decide)]; exact e57b⟩⟩
    · exact KP_trans (KP_trans (KP_trans (KP_trans (KP_trans (KP_trans (KP_trans (KP_trans r6 s9 (L _) (L _) (L _) (L _) (L _)) u6 (L _) (Nat.le_succ l) (L _) (L _) (L _)) y9 (L _) (Nat.le_succ l) (L _) (L _) (L _)) z6 (L _) (by omega) (L _) (L _) (L _)) A4 (L _) (by omega) (L _) (L _) (L _)) B4 (L _) (by omega) (Nat.le_succ _) (L _) (L _)) l3 (L _) (by omega) (by simp only [List.length_cons]; omega) (L _) (L _)) m3 (L _) (by omega) (by simp only [List.length_cons]; omega) (Nat.le_succ t) (L _)
    · rw [m4, l4, B5, A5, z7, y10, u7, s10, r7]
    · rw [m3.2.2.2.1 138 (by decide) t (by omega)]; exact l5
    · rw [m3.2.2.2.1 139 (by decide) t (by omega)]; exact l6
    · rw [m3.2.2.2.1 140 (by decide) t (by omega)]; exact l7
