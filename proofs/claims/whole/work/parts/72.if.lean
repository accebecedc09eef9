/-! READER, 19: if. -/
theorem FR_ltr {t s x : Nat} {τ ρ : jx_S} (x1 x2 x3 : Int32) (h : FR t s x τ ρ) (ht : t < 4000) : p_r_later x1 x2 x3 ρ = some (ltr ρ t x1 x2 x3) ∧ FR (t + 1) s x τ (ltr ρ t x1 x2 x3) := by
  obtain ⟨g1, g2, g3, g4, g5, g6, g7, g8⟩ := h
  refine ⟨q_r_later ρ t x1 x2 x3 g5 ht, g1, ?_, ?_, ?_, ?_, ?_, ?_, g8⟩
  · unfold ltr; simp (disch := first | assumption | decide | omega) only [g2, nI_lit, cT_lt, cF_lt, cT_le, cF_le, cT_eq, cF_eq, nF_le, mF_eq, mG_eq, mT_lt, eq_self, nI_clamp, nI_add, Nat.add_zero, nI_sub, s_i_ne, s_i_eq, s_i_2, s_l_1, s_l_ne, s_l_eq, s_p_ne, s_p_eq, s_p_2, s_q_1, s_q_ne, s_q_eq, u_ne, u_eq, v_ne, v_eq, w_ne, w_eq, jI_at_in, jL_at_in, false_or, or_false, true_or, or_true, true_and, and_true, false_and, and_false, not_true_eq_false, not_false_eq_true, ↓reduceIte, Option.bind_some, Option.map_some]
  · unfold ltr; simp (disch := first | assumption | decide | omega) only [g3, nI_lit, cT_lt, cF_lt, cT_le, cF_le, cT_eq, cF_eq, nF_le, mF_eq, mG_eq, mT_lt, eq_self, nI_clamp, nI_add, Nat.add_zero, nI_sub, s_i_ne, s_i_eq, s_i_2, s_l_1, s_l_ne, s_l_eq, s_p_ne, s_p_eq, s_p_2, s_q_1, s_q_ne, s_q_eq, u_ne, u_eq, v_ne, v_eq, w_ne, w_eq, jI_at_in, jL_at_in, false_or, or_false, true_or, or_true, true_and, and_true, false_and, and_false, not_true_eq_false, not_false_eq_true, ↓reduceIte, Option.bind_some, Option.map_some]
  · unfold ltr; simp (disch := first | assumption | decide | omega) only [g4, nI_lit, cT_lt, cF_lt, cT_le, cF_le, cT_eq, cF_eq, nF_le, mF_eq, mG_eq, mT_lt, eq_self, nI_clamp, nI_add, Nat.add_zero, nI_sub, s_i_ne, s_i_eq, s_i_2, s_l_1, s_l_ne, s_l_eq, s_p_ne, s_p_eq, s_p_2, s_q_1, s_q_ne, s_q_eq, u_ne, u_eq, v_ne, v_eq, w_ne, w_eq, jI_at_in, jL_at_in, false_or, or_false, true_or, or_true, true_and, and_true, false_and, and_false, not_true_eq_false, not_false_eq_true, ↓reduceIte, Option.bind_some, Option.map_some]
  · unfold ltr; simp (disch := first | assumption | decide | omega) only [nI_lit, cT_lt, cF_lt, cT_le, cF_le, cT_eq, cF_eq, nF_le, mF_eq, mG_eq, mT_lt, eq_self, nI_clamp, nI_add, Nat.add_zero, nI_sub, s_i_ne, s_i_eq, s_i_2, s_l_1, s_l_ne, s_l_eq, s_p_ne, s_p_eq, s_p_2, s_q_1, s_q_ne, s_q_eq, u_ne, u_eq, v_ne, v_eq, w_ne, w_eq, jI_at_in, jL_at_in, false_or, or_false, true_or, or_true, true_and, and_true, false_and, and_false, not_true_eq_false, not_false_eq_true, ↓reduceIte, Option.bind_some, Option.map_some]
  · unfold ltr; simp (disch := first | assumption | decide | omega) only [g6, nI_lit, cT_lt, cF_lt, cT_le, cF_le, cT_eq, cF_eq, nF_le, mF_eq, mG_eq, mT_lt, eq_self, nI_clamp, nI_add, Nat.add_zero, nI_sub, s_i_ne, s_i_eq, s_i_2, s_l_1, s_l_ne, s_l_eq, s_p_ne, s_p_eq, s_p_2, s_q_1, s_q_ne, s_q_eq, u_ne, u_eq, v_ne, v_eq, w_ne, w_eq, jI_at_in, jL_at_in, false_or, or_false, true_or, or_true, true_and, and_true, false_and, and_false, not_true_eq_false, not_false_eq_true, ↓reduceIte, Option.bind_some, Option.map_some]
  · unfold ltr; simp (disch := first | assumption | decide | omega) only [g7, nI_lit, cT_lt, cF_lt, cT_le, cF_le, cT_eq, cF_eq, nF_le, mF_eq, mG_eq, mT_lt, eq_self, nI_clamp, nI_add, Nat.add_zero, nI_sub, s_i_ne, s_i_eq, s_i_2, s_l_1, s_l_ne, s_l_eq, s_p_ne, s_p_eq, s_p_2, s_q_1, s_q_ne, s_q_eq, u_ne, u_eq, v_ne, v_eq, w_ne, w_eq, jI_at_in, jL_at_in, false_or, or_false, true_or, or_true, true_and, and_true, false_and, and_false, not_true_eq_false, not_false_eq_true, ↓reduceIte, Option.bind_some, Option.map_some]
/-- a word that must be there, then another item and an expression -/
theorem word_step {E : jEn} {f nf a n l : Nat} {sc : List Nat} {G : jGh} {t dn dep : Nat} {τ ρ : jx_S} (k : Nat) (x1 x2 x3 : Int32) (hk1 : 1 ≤ k) (hk : k ≤ 27) (hP : PR E f nf a n l sc G t dn dep τ ρ) (ht : t + 1 < 4000) :
    ∃ τ1 ρ1, p_cRea_pass (nI k) τ = some τ1 ∧ ((p_r_expect (nI k) ρ).bind fun q => (p_r_later x1 x2 x3 q).bind fun q2 => (p_r_later (nI 1) (nI 0) (nI 0) q2).bind fun q3 => some q3) = some ρ1 ∧ ((∃ t' s x, FR t' s x τ1 ρ1) ∨ (eK E a = k ∧ a < eC E ∧ PR E f nf (a + 1) n l sc G (t + 2) dn dep τ1 ρ1 ∧ KP f n l sc.length t dn τ ρ τ1 ρ1 ∧ ρ1.1 130 = ρ.1 130 ∧ ρ1.1 138 t = x1 ∧ ρ1.1 139 t = x2 ∧ ρ1.1 140 t = x3 ∧ ρ1.1 138 (t + 1) = nI 1)) := by
  obtain ⟨τ1, ρ1, r1, r2, r3⟩ := pass2 k hk1 hk (Or.inr hP)
  rcases r3 with ⟨x, r3⟩ | ⟨r3, r4, r5, r6, r7⟩
  · obtain ⟨w1, w2⟩ := FR_ltr x1 x2 x3 r3 (by omega)
    obtain ⟨w3, w4⟩ := FR_ltr (nI 1) (nI 0) (nI 0) w2 (by omega)
    exact ⟨τ1, _, r1, by rw [r2, Option.bind_some, w1, Option.bind_some, w3, Option.bind_some], Or.inl ⟨_, _, _, w4⟩⟩
  · obtain ⟨l1, l2, l3, l4, l5, l6, l7⟩ := PR_ltr x1 x2 x3 r5 (by omega)
    obtain ⟨m1, m2, m3, m4, m5, m6, m7⟩ := PR_ltr (nI 1) (nI 0) (nI 0) l2 (by omega)
    refine ⟨τ1, _, r1, by rw [r2, Option.bind_some, l1, Option.bind_some, m1, Option.bind_some], Or.inr ⟨r3, r4, m2, KP_trans (KP_trans r6 l3 (Nat.le_refl _) (Nat.le_refl _) (Nat.le_refl _) (Nat.le_refl _) (Nat.le_refl _)) m3 (Nat.le_refl _) (Nat.le_refl _) (Nat.le_refl _) (Nat.le_succ t) (Nat.le_refl _), by rw [m4, l4, r7], ?_, ?_, ?_, m5⟩⟩
    · rw [m3.2.2.2.1 138 (by decide) t (by omega)]; exact l5
    · rw [m3.2.2.2.1 139 (by decide) t (by omega)]; exact l6
    · rw [m3.2.2.2.1 140 (by decide) t (by omega)]; exact l7
theorem ro4 (x y : Int32) (σ : jx_S) : p_r_readOne (nI 4) x y σ = ((p_r_expect (nI 8) σ).bind fun q => (p_r_later (nI 5) x (nI 0) q).bind fun q2 => (p_r_later (nI 1) (nI 0) (nI 0) q2).bind fun q3 => some q3) := by
  unfold p_r_readOne p_r_readOne_167 p_r_readOne_180 p_r_readOne_195
  simp (disch := first | assumption | decide | omega) only [nI_lit, cT_lt, cF_lt, cT_le, cF_le, cT_eq, cF_eq, nF_le, mF_eq, mG_eq, mT_lt, eq_self, nI_clamp, nI_add, Nat.add_zero, nI_sub, s_i_ne, s_i_eq, s_i_2, s_l_1, s_l_ne, s_l_eq, s_p_ne, s_p_eq, s_p_2, s_q_1, s_q_ne, s_q_eq, u_ne, u_eq, v_ne, v_eq, w_ne, w_eq, jI_at_in, jL_at_in, false_or, or_false, true_or, or_true, true_and, and_true, false_and, and_false, not_true_eq_false, not_false_eq_true, ↓reduceIte, Option.bind_some, Option.map_some]
theorem ro5 (x y : Int32) (σ : jx_S) : p_r_readOne (nI 5) x y σ = ((p_r_expect (nI 9) σ).bind fun q => (p_r_later (nI 6) x (nI 0) q).bind fun q2 => (p_r_later (nI 1) (nI 0) (nI 0) q2).bind fun q3 => some q3) := by
  unfold p_r_readOne p_r_readOne_167 p_r_readOne_180 p_r_readOne_195
  simp (disch := first | assumption | decide | omega) only [nI_lit, cT_lt, cF_lt, cT_le, cF_le, cT_eq, cF_eq, nF_le, mF_eq, mG_eq, mT_lt, eq_self, nI_clamp, nI_add, Nat.add_zero, nI_sub, s_i_ne, s_i_eq, s_i_2, s_l_1, s_l_ne, s_l_eq, s_p_ne, s_p_eq, s_p_2, s_q_1, s_q_ne, s_q_eq, u_ne, u_eq, v_ne, v_eq, w_ne, w_eq, jI_at_in, jL_at_in, false_or, or_false, true_or, or_true, true_and, and_true, false_and, and_false, not_true_eq_false, not_false_eq_true, ↓reduceIte, Option.bind_some, Option.map_some]
def fin3 (ρ : jx_S) (n tk r1 r2 r3 dn lo : Nat) : jx_S := gv (rnode (jx_i (jx_i (jx_i ρ 106 47 (nI (dn + 2))) 106 47 (nI (dn + 1))) 106 47 (nI dn)) n (nI 7) (nI tk) (nI r1) (nI r2) (nI r3) (nI lo)) dn n
theorem take3 {E : jEn} {f nf a n l : Nat} {sc : List Nat} {G : jGh} {t dn dep r1 r2 r3 : Nat} {τ ρ : jx_S} (hP : PR E f nf a n l sc G t (dn + 3) dep τ ρ) (d1 : ρ.1 141 dn = nI r1) (d2 : ρ.1 141 (dn + 1) = nI r2) (d3 : ρ.1 141 (dn + 2) = nI r3) {α : Type} (F : Int32 × jx_S → Int32 × jx_S → Int32 × jx_S → Option α) : ((p_r_take ρ).bind fun q13 => ((p_r_take q13.2).bind fun q14 => ((p_r_take q14.2).bind fun q15 => F q13 q14 q15))) = F (nI r3, jx_i ρ 106 47 (nI (dn + 2))) (nI r2, jx_i (jx_i ρ 106 47 (nI (dn + 2))) 106 47 (nI (dn + 1))) (nI r1, jx_i (jx_i (jx_i ρ 106 47 (nI (dn + 2))) 106 47 (nI (dn + 1))) 106 47 (nI dn)) := by
  have hb := PR_bounds hP
  have hB := hP.2.2.1
  obtain ⟨b0, b1, b2, b3, b4, b5, b6, b7, b8, b9, b10⟩ := id hB
  have t1 := q_r_take ρ (dn + 2) b9 (by omega)
  have t2 := q_r_take (jx_i ρ 106 47 (nI (dn + 2))) (dn + 1) (by simp (disch := first | assumption | decide | omega) only [nI_lit, cT_lt, cF_lt, cT_le, cF_le, cT_eq, cF_eq, nF_le, mF_eq, mG_eq, mT_lt, eq_self, nI_clamp, nI_add, Nat.add_zero, nI_sub, s_i_ne, s_i_eq, s_i_2, s_l_1, s_l_ne, s_l_eq, s_p_ne, s_p_eq, s_p_2, s_q_1, s_q_ne, s_q_eq, u_ne, u_eq, v_ne, v_eq, w_ne, w_eq, jI_at_in, jL_at_in, false_or, or_false, true_or, or_true, true_and, and_true, false_and, and_false, not_true_eq_false, not_false_eq_true, ↓reduceIte, Option.bind_some, Option.map_some]) (by omega)
  rw [s_i_ne (by decide), d2] at t2
  have t3 := q_r_take (jx_i (jx_i ρ 106 47 (nI (dn + 2))) 106 47 (nI (dn + 1))) dn (by simp (disch := first | assumption | decide | omega) only [nI_lit, cT_lt, cF_lt, cT_le, cF_le, cT_eq, cF_eq, nF_le, mF_eq, mG_eq, mT_lt, eq_self, nI_clamp, nI_add, Nat.add_zero, nI_sub, s_i_ne, s_i_eq, s_i_2, s_l_1, s_l_ne, s_l_eq, s_p_ne, s_p_eq, s_p_2, s_q_1, s_q_ne, s_q_eq, u_ne, u_eq, v_ne, v_eq, w_ne, w_eq, jI_at_in, jL_at_in, false_or, or_false, true_or, or_true, true_and, and_true, false_and, and_false, not_true_eq_false, not_false_eq_true, ↓reduceIte, Option.bind_some, Option.map_some]) (by omega)
  rw [s_i_ne (by decide), s_i_ne (by decide), d1] at t3
  rw [t1, Option.bind_some, d3, t2, Option.bind_some, t3, Option.bind_some]
theorem ro6 (x y : Int32) (σ : jx_S) : p_r_readOne (nI 6) x y σ = ((p_r_take (jx_i σ 106 48 ((σ.1 106 48) - (1 : Int32)))).bind fun q13 => ((p_r_take q13.2).bind fun q14 => ((p_r_take q14.2).bind fun q15 => ((p_r_node (nI 7) x q15.1 q14.1 q13.1 q15.2).bind fun q16 => ((p_r_give q16.1 q16.2).bind fun q17 => (some (q17))))))) := by
  unfold p_r_readOne
  simp (disch := first | assumption | decide | omega) only [nI_lit, cT_lt, cF_lt, cT_le, cF_le, cT_eq, cF_eq, nF_le, mF_eq, mG_eq, mT_lt, eq_self, nI_clamp, nI_add, Nat.add_zero, nI_sub, s_i_ne, s_i_eq, s_i_2, s_l_1, s_l_ne, s_l_eq, s_p_ne, s_p_eq, s_p_2, s_q_1, s_q_ne, s_q_eq, u_ne, u_eq, v_ne, v_eq, w_ne, w_eq, jI_at_in, jL_at_in, false_or, or_false, true_or, or_true, true_and, and_true, false_and, and_false, not_true_eq_false, not_false_eq_true, ↓reduceIte, Option.bind_some, Option.map_some]
theorem sim_if {E : jEn} {f nf a n l : Nat} {sc : List Nat} {G : jGh} {t dn dep : Nat} {τ τ1 ρ1 : jx_S} {rec : Int32 → jx_S → Option (Int32 × jx_S)} (hrec : RecOK E f nf (dep + 1) rec) (hpass : p_cRea_pass (nI 7) τ = some τ1) (h56 : τ.1 5 6 = nI a) (hac : a < eC E) (hk : eK E a = 7) (h : PR E f nf (a + 1) n l sc G (t + 2) dn (dep + 1) τ1 ρ1) (i0 : ρ1.1 138 t = nI 4) (i1 : ρ1.1 139 t = nI a) (i2 : ρ1.1 138 (t + 1) = nI 1) (ht : t + 14 * (31 - dep) ≤ 3900) (hdep : dep ≤ 29) (hna : n ≤ a) :
    SimS E f nf a n l sc G t dn dep τ1 ρ1 6 9 (p_cRea_readIf rec (nI dep) τ) := by
  have hb := PR_bounds h
  have hx1 : nI dep + 1 = nI (dep + 1) := nI_1 dep
  have hcl : ∀ v1 τ2 τ3 v2 τ4 τ5 v3 τ6 r, rec (nI (dep + 1)) τ1 = some (v1, τ2) → p_cRea_pass (nI 8) τ2 = some τ3 → rec (nI (dep + 1)) τ3 = some (v2, τ4) → p_cRea_pass (nI 9) τ4 = some τ5 → rec (nI (dep + 1)) τ5 = some (v3, τ6) → p_cRea_addNode (nI 7) (nI a) 0 v1 v2 v3 τ6 = some r → p_cRea_readIf rec (nI dep) τ = some r := by
    intro v1 τ2 τ3 v2 τ4 τ5 v3 τ6 r q1 q2 q3 q4 q5 q6
    unfold p_cRea_readIf
    show ((p_cRea_pass (nI 7) τ).bind _) = _
    rw [hpass, Option.bind_some, hx1, q1, Option.bind_some]
    show ((p_cRea_pass (nI 8) τ2).bind _) = _
    rw [q2, Option.bind_some, q3, Option.bind_some]
    show ((p_cRea_pass (nI 9) τ4).bind _) = _
    rw [q4, Option.bind_some, q5, Option.bind_some, h56]
    show ((p_cRea_addNode (nI 7) (nI a) 0 v1 v2 v3 τ6).bind _) = _
    rw [q6, Option.bind_some]
  obtain ⟨v1, τ2, e1, ρ2, x1, x2, x3⟩ := hrec.2 _ _ _ _ _ (t + 1) _ _ _ h i2 (by omega)
  rcases x3 with ⟨x3, t', s, x, x4⟩ | ⟨a1, n1, l1, G1, x3, x4, hD1⟩
  · exact ⟨0, τ2, e1, ρ2, hcl _ _ _ _ _ _ _ _ _ x1 (told_pass x4.1 (by decide)) (hrec.1 _ _ x4.1) (told_pass x4.1 (by decide)) (hrec.1 _ _ x4.1) (told_addNode x4.1 _ _ _ _ _ _), x2, Or.inl ⟨by omega, t', s, x, x4⟩⟩
  have hP1 := hD1.2.2.2.2.1
  have hK1 := hD1.2.2.2.2.2.1
  have hB1 := hP1.2.2.1
  have dlt1 := hD1.1
  obtain ⟨hP1', hKp1, h130_1⟩ := PR_pop hP1
  obtain ⟨τ3, ρ3, y1, y2, y3⟩ := word_step 8 (nI 5) (nI a) (nI 0) (by omega) (by omega) hP1' (by omega)
  have hs1 : RT f 1 ρ2 ρ3 := RT_one hB1.2.2.1 hB1.2.2.2.2.2.2.2.2.1 (by omega) (by rw [hK1.2.2.2.1 138 (by decide) t (by omega), i0, hK1.2.2.2.1 139 (by decide) t (by omega), i1, ro4]; exact y2)
  have hb1 := PR_bounds hP1
  rcases y3 with ⟨t', s, x, y3⟩ | ⟨w1, w2, w3, w4, w5, w6, w7, w8, w9⟩
  · exact ⟨0, τ3, e1 + 1, ρ3, hcl _ _ _ _ _ _ _ _ _ x1 y1 (hrec.1 _ _ y3.1) (told_pass y3.1 (by decide)) (hrec.1 _ _ y3.1) (told_addNode y3.1 _ _ _ _ _ _), RT_trans x2 hs1, Or.inl ⟨by omega, t', s, x, y3⟩⟩
  obtain ⟨v2, τ4, e2, ρ4, z1, z2, z3⟩ := hrec.2 _ _ _ _ _ (t + 1) _ _ _ w3 w9 (by omega)
  rcases z3 with ⟨z3, t', s, x, z4⟩ | ⟨a2, n2, l2, G2, z3, z4, hD2⟩
  · exact ⟨0, τ4, e1 + 1 + e2, ρ4, hcl _ _ _ _ _ _ _ _ _ x1 y1 z1 (told_pass z4.1 (by decide)) (hrec.1 _ _ z4.1) (told_addNode z4.1 _ _ _ _ _ _), RT_trans (RT_trans x2 hs1) z2, Or.inl ⟨by omega, t', s, x, z4⟩⟩
  have hP2 := hD2.2.2.2.2.1
  have hK2 := hD2.2.2.2.2.2.1
  have hB2 := hP2.2.2.1
  have dlt2 := hD2.1
  obtain ⟨hP2', hKp2, h130_2⟩ := PR_pop hP2
  obtain ⟨τ5, ρ5, u1, u2, u3⟩ := word_step 9 (nI 6) (nI a) (nI 0) (by omega) (by omega) hP2' (by omega)
  have hs2 : RT f 1 ρ4 ρ5 := RT_one hB2.2.2.1 hB2.2.2.2.2.2.2.2.2.1 (by omega) (by rw [hK2.2.2.2.1 138 (by decide) t (by omega), w6, hK2.2.2.2.1 139 (by decide) t (by omega), w7, ro5]; exact u2)
  have hb2 := PR_bounds hP2
  rcases u3 with ⟨t', s, x, u3⟩ | ⟨p1, p2, p3, p4, p5, p6, p7, p8, p9⟩
  · exact ⟨0, τ5, e1 + 1 + e2 + 1, ρ5, hcl _ _ _ _ _ _ _ _ _ x1 y1 z1 u1 (hrec.1 _ _ u3.1) (told_addNode u3.1 _ _ _ _ _ _), RT_trans (RT_trans (RT_trans x2 hs1) z2) hs2, Or.inl ⟨by omega, t', s, x, u3⟩⟩
  obtain ⟨v3, τ6, e3, ρ6, o1, o2, o3⟩ := hrec.2 _ _ _ _ _ (t + 1) _ _ _ p3 p9 (by omega)
  rcases o3 with ⟨o3, t', s, x, o4⟩ | ⟨a3, n3, l3, G3, o3, o4, hD3⟩
  · exact ⟨0, τ6, e1 + 1 + e2 + 1 + e3, ρ6, hcl _ _ _ _ _ _ _ _ _ x1 y1 z1 u1 o1 (told_addNode o4.1 _ _ _ _ _ _), RT_trans (RT_trans (RT_trans (RT_trans x2 hs1) z2) hs2) o2, Or.inl ⟨by omega, t', s, x, o4⟩⟩
  have hP3 := hD3.2.2.2.2.1
  have hK3 := hD3.2.2.2.2.2.1
  have hB3 := hP3.2.2.1
  have dlt3 := hD3.1
  have hb3 := PR_bounds hP3
  obtain ⟨hP3', hKp3, h130_3⟩ := PR_pop hP3
  obtain ⟨hP4, hKp4⟩ := PR_dep dep hP3'
  obtain ⟨c1, c2, c3, c4, c5, c6, c7, c8, c9, c10⟩ := hD1
  obtain ⟨d1, d2, d3, d4, d5, d6, d7, d8, d9, d10⟩ := hD2
  obtain ⟨f1, f2, f3, f4, f5, f6, f7, f8, f9, f10⟩ := hD3
  have L : ∀ x : Nat, x ≤ x := Nat.le_refl
  have KA : KP f n1 l1 sc.length t (dn + 1) τ2 ρ2 τ3 ρ3 := KP_trans hKp1 w4 (L _) (L _) (L _) (L _) (L _)
  have KB : KP f n2 l2 sc.length t (dn + 2) τ4 ρ4 τ5 ρ5 := KP_trans hKp2 p4 (L _) (L _) (L _) (L _) (L _)
  have KC : KP f n3 l3 sc.length t (dn + 3) τ6 ρ6 τ6 (jx_i (jx_i ρ6 106 45 (nI t)) 106 48 (nI dep)) := KP_trans hKp3 (hKp4 n3 l3 sc.length t (dn + 3)) (L _) (L _) (L _) (L _) (L _)
  have R1 : Rt τ6 (jx_i (jx_i ρ6 106 45 (nI t)) 106 48 (nI dep)) G3 sc (n1 - 1) n l l1 := Rt_keep (Rt_keep (Rt_keep (Rt_keep (Rt_keep c8 KA (by omega) rfl) d6 (by omega) (d9 _ (by omega))) KB (by omega) rfl) f6 (by omega) (f9 _ (by omega))) KC (by omega) rfl
  have R2 : Rt τ6 (jx_i (jx_i ρ6 106 45 (nI t)) 106 48 (nI dep)) G3 sc (n2 - 1) n1 l1 l2 := Rt_keep (Rt_keep (Rt_keep d8 KB (by omega) rfl) f6 (by omega) (f9 _ (by omega))) KC (by omega) rfl
  have R3 : Rt τ6 (jx_i (jx_i ρ6 106 45 (nI t)) 106 48 (nI dep)) G3 sc (n3 - 1) n2 l2 l3 := Rt_keep f8 KC (by omega) rfl
  have D1 : (jx_i (jx_i ρ6 106 45 (nI t)) 106 48 (nI dep)).1 141 dn = nI (n1 - 1) := by
    rw [KC.2.2.1 141 (by decide) dn (by omega), f6.2.2.1 141 (by decide) dn (by omega), KB.2.2.1 141 (by decide) dn (by omega), d6.2.2.1 141 (by decide) dn (by omega), KA.2.2.1 141 (by decide) dn (by omega)]
    exact c7
  have D2 : (jx_i (jx_i ρ6 106 45 (nI t)) 106 48 (nI dep)).1 141 (dn + 1) = nI (n2 - 1) := by
    rw [KC.2.2.1 141 (by decide) (dn + 1) (by omega), f6.2.2.1 141 (by decide) (dn + 1) (by omega), KB.2.2.1 141 (by decide) (dn + 1) (by omega)]
    exact d7
  have D3 : (jx_i (jx_i ρ6 106 45 (nI t)) 106 48 (nI dep)).1 141 (dn + 2) = nI (n3 - 1) := by
    rw [KC.2.2.1 141 (by decide) (dn + 2) (by omega)]
    exact f7
  obtain ⟨A1, A2, A3, A4, A5, A6, A7⟩ := R1
  obtain ⟨B1, B2, B3, B4, B5, B6, B7⟩ := R2
  obtain ⟨C1, C2, C3, C4, C5, C6, C7⟩ := R3
  have hnn := if_new (tk := a) (lo := n) (B0 := l) (r1 := n1 - 1) (r2 := n2 - 1) (r3 := n3 - 1) hP4 (by omega) hac hk (by omega) (by omega) D1 D2 D3 (by omega) (by omega) (by omega) (by omega) A3 (by rw [B3]; congr 1; omega) (by rw [C3]; congr 1; omega) A2 A4 B2 B4 C2 C4 C1 A5 B5 C5 A6 (by rw [B6, A7]) (by rw [C6, B7]) C7 (fun s q => sc_lt sc h.2.2.2.2.1 s q) (by omega)
  have hnd := q_r_node_in (jx_i (jx_i (jx_i (jx_i (jx_i ρ6 106 45 (nI t)) 106 48 (nI dep)) 106 47 (nI (dn + 2))) 106 47 (nI (dn + 1))) 106 47 (nI dn)) n3 (n1 - 1) (nI 7) (nI a) (nI (n2 - 1)) (nI (n3 - 1)) (by simp (disch := first | assumption | decide | omega) only [hB3.2.2.2.2.1, nI_lit, cT_lt, cF_lt, cT_le, cF_le, cT_eq, cF_eq, nF_le, mF_eq, mG_eq, mT_lt, eq_self, nI_clamp, nI_add, Nat.add_zero, nI_sub, s_i_ne, s_i_eq, s_i_2, s_l_1, s_l_ne, s_l_eq, s_p_ne, s_p_eq, s_p_2, s_q_1, s_q_ne, s_q_eq, u_ne, u_eq, v_ne, v_eq, w_ne, w_eq, jI_at_in, jL_at_in, false_or, or_false, true_or, or_true, true_and, and_true, false_and, and_false, not_true_eq_false, not_false_eq_true, ↓reduceIte, Option.bind_some, Option.map_some]) (by omega) (by omega)
  rw [show (jx_i (jx_i (jx_i (jx_i (jx_i ρ6 106 45 (nI t)) 106 48 (nI dep)) 106 47 (nI (dn + 2))) 106 47 (nI (dn + 1))) 106 47 (nI dn)).1 121 (n1 - 1) = nI n by rw [s_i_ne (by decide), s_i_ne (by decide), s_i_ne (by decide)]; exact A3] at hnd
  have hgv := q_r_give (rnode (jx_i (jx_i (jx_i (jx_i (jx_i ρ6 106 45 (nI t)) 106 48 (nI dep)) 106 47 (nI (dn + 2))) 106 47 (nI (dn + 1))) 106 47 (nI dn)) n3 (nI 7) (nI a) (nI (n1 - 1)) (nI (n2 - 1)) (nI (n3 - 1)) (nI n)) dn n3 (by unfold rnode; simp (disch := first | assumption | decide | omega) only [nI_lit, cT_lt, cF_lt, cT_le, cF_le, cT_eq, cF_eq, nF_le, mF_eq, mG_eq, mT_lt, eq_self, nI_clamp, nI_add, Nat.add_zero, nI_sub, s_i_ne, s_i_eq, s_i_2, s_l_1, s_l_ne, s_l_eq, s_p_ne, s_p_eq, s_p_2, s_q_1, s_q_ne, s_q_eq, u_ne, u_eq, v_ne, v_eq, w_ne, w_eq, jI_at_in, jL_at_in, false_or, or_false, true_or, or_true, true_and, and_true, false_and, and_false, not_true_eq_false, not_false_eq_true, ↓reduceIte, Option.bind_some, Option.map_some]) (by omega)
  have hst : p_r_readOne (nI 6) (nI a) (ρ6.1 140 t) (jx_i ρ6 106 45 (nI t)) = some (gv (rnode (jx_i (jx_i (jx_i (jx_i (jx_i ρ6 106 45 (nI t)) 106 48 (nI dep)) 106 47 (nI (dn + 2))) 106 47 (nI (dn + 1))) 106 47 (nI dn)) n3 (nI 7) (nI a) (nI (n1 - 1)) (nI (n2 - 1)) (nI (n3 - 1)) (nI n)) dn n3) := by
    have h48 := hP3'.2.2.1.2.2.2.2.2.2.2.2.2.2
    rw [ro6, h48, show nI (dep + 1) - 1 = nI dep from nI_pred dep]
    rw [take3 hP4 D1 D2 D3 (fun q13 q14 q15 => ((p_r_node (nI 7) (nI a) q15.1 q14.1 q13.1 q15.2).bind fun q16 => ((p_r_give q16.1 q16.2).bind fun q17 => (some (q17)))))]
    rw [hnd, Option.bind_some, hgv, Option.bind_some]
  have hs3 : RT f 1 ρ6 _ := RT_one hB3.2.2.1 hB3.2.2.2.2.2.2.2.2.1 (by omega) (by rw [hK3.2.2.2.1 138 (by decide) t (by omega), p6, hK3.2.2.2.1 139 (by decide) t (by omega), p7]; exact hst)
  have hq : (jx_i (jx_i ρ6 106 45 (nI t)) 106 48 (nI dep)).1 130 f = ρ6.1 130 f := by rw [s_i_ne (by decide), h130_3]
  clear hnd hgv hst
  generalize gv (rnode (jx_i (jx_i (jx_i (jx_i (jx_i ρ6 106 45 (nI t)) 106 48 (nI dep)) 106 47 (nI (dn + 2))) 106 47 (nI (dn + 1))) 106 47 (nI dn)) n3 (nI 7) (nI a) (nI (n1 - 1)) (nI (n2 - 1)) (nI (n3 - 1)) (nI n)) dn n3 = ρ7 at hnn hs3
  generalize jx_i (jx_i ρ6 106 45 (nI t)) 106 48 (nI dep) = ρ6' at *
  obtain ⟨τ7, G5, N1, N3, N5, N6, N7, ⟨N8, N8a⟩, N9, N10⟩ := hnn
  have N8b : gA G5 (n3 + 1 - 1) = 0 := N8a
  rw [show n1 - 1 + 1 = n1 by omega, show n2 - 1 + 1 = n2 by omega, show n3 - 1 + 1 = n3 by omega] at N1
  refine ⟨nI (n3 + 1), τ7, e1 + 1 + e2 + 1 + e3 + 1, ρ7, hcl _ _ _ _ _ _ _ _ _ x1 y1 z1 u1 o1 (by rw [x4, z4, o4]; exact N1), RT_trans (RT_trans (RT_trans (RT_trans (RT_trans x2 hs1) z2) hs2) o2) hs3, Or.inr ⟨a3, n3 + 1, l3, G5, by omega, rfl, by omega, by omega, by omega, by omega, N3, ?_, N6, N7, fun j hj => ?_, ?_⟩⟩
  · exact KP_trans (KP_trans (KP_trans (KP_trans (KP_trans (KP_trans (KP_trans (t := t) (t' := t + 1) KP_refl c6 (L _) (L _) (L _) (by omega) (L _)) KA (by omega) c4 (L _) (L _) (by omega)) d6 (by omega) c4 (L _) (by omega) (by omega)) KB (by omega) (by omega) (L _) (L _) (by omega)) f6 (by omega) (by omega) (L _) (by omega) (by omega)) KC (by omega) (by omega) (L _) (L _) (by omega)) (N5 n l sc.length t (L _)) (L _) (L _) (L _) (L _) (L _)
  · rw [N8 j (by omega), f9 j (by omega), d9 j (by omega), c9 j hj]
  · have q7 : ∀ j, j < n3 → ρ7.1 112 j = ρ6.1 112 j := fun j hj => by rw [N10, u_ne (by omega), KC.2.1 112 (by decide) j hj]
    have q4 : ∀ j, j < n2 → ρ6.1 112 j = ρ4.1 112 j := fun j hj => by rw [f6.2.1 112 (by decide) j hj, KB.2.1 112 (by decide) j hj]
    have q2 : ∀ j, j < n1 → ρ4.1 112 j = ρ2.1 112 j := fun j hj => by rw [d6.2.1 112 (by decide) j hj, KA.2.1 112 (by decide) j hj]
    rw [N9, hq, f10, p5, h130_2, d10, w5, h130_1, c10, show n3 + 1 - n = (n3 - n) + 1 by omega, letc_no (fun q => by
      rw [show n + (n3 - n) = n3 by omega, N10, u_eq rfl] at q
      exact absurd q (by decide))]
    rw [show n3 - n = ((n1 - n) + (n2 - n1)) + (n3 - n2) by omega, letc_add, letc_add, show n + ((n1 - n) + (n2 - n1)) = n2 by omega, show n + (n1 - n) = n1 by omega, ← nI_add, ← nI_add, Int32.add_assoc, Int32.add_assoc, ← Int32.add_assoc (nI (letc (ρ2.1 112) n (n1 - n)))]
    rw [letc_congr (g := ρ2.1 112) (g' := ρ7.1 112) (n1 - n) (fun j hj => by rw [q7 _ (by omega), q4 _ (by omega), q2 _ (by omega)]), letc_congr (g := ρ4.1 112) (g' := ρ7.1 112) (n2 - n1) (fun j hj => by rw [q7 _ (by omega), q4 _ (by omega)]), letc_congr (g := ρ6.1 112) (g' := ρ7.1 112) (n3 - n2) (fun j hj => by rw [q7 _ (by omega)])]
