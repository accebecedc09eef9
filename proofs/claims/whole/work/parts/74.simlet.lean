/-! READER, 21: let, to its end. -/
theorem ro1 (x y : Int32) (σ : jx_S) : p_r_readOne (nI 1) x y σ = p_r_expression σ := by
  unfold p_r_readOne
  simp (disch := first | assumption | decide | omega) only [ob_id, nI_lit, cT_lt, cF_lt, cT_le, cF_le, cT_eq, cF_eq, nF_le, mF_eq, mG_eq, mT_lt, eq_self, nI_clamp, nI_add, Nat.add_zero, nI_sub, s_i_ne, s_i_eq, s_i_2, s_l_1, s_l_ne, s_l_eq, s_p_ne, s_p_eq, s_p_2, s_q_1, s_q_ne, s_q_eq, u_ne, u_eq, v_ne, v_eq, w_ne, w_eq, jI_at_in, jL_at_in, false_or, or_false, true_or, or_true, true_and, and_true, false_and, and_false, not_true_eq_false, not_false_eq_true, ↓reduceIte, Option.bind_some, Option.map_some]
theorem ro2 (x : Int32) (y : Nat) (σ : jx_S) (hy : y < 2 ^ 31) : p_r_readOne (nI 2) x (nI y) σ = ((p_r_expect (nI 6) σ).bind fun q2 => ((p_r_enter (nI (y % 100)) (nI (y / 100)) q2).bind fun q3 => ((p_r_later (nI 3) x (nI (y % 100)) q3).bind fun q4 => ((p_r_later (nI 1) (nI 0) (nI 0) q4).bind fun q5 => (some (q5)))))) := by
  unfold p_r_readOne
  have e1 : nI y - nI y / nI 100 * nI 100 = nI (y % 100) := pk_rem hy (by omega) (by omega)
  have e2 : nI y / nI 100 = nI (y / 100) := pk_div hy (by omega) (by omega)
  simp (disch := first | assumption | decide | omega) only [nI_lit, cT_lt, cF_lt, cT_le, cF_le, cT_eq, cF_eq, nF_le, mF_eq, mG_eq, mT_lt, eq_self, nI_clamp, nI_add, Nat.add_zero, nI_sub, s_i_ne, s_i_eq, s_i_2, s_l_1, s_l_ne, s_l_eq, s_p_ne, s_p_eq, s_p_2, s_q_1, s_q_ne, s_q_eq, u_ne, u_eq, v_ne, v_eq, w_ne, w_eq, jI_at_in, jL_at_in, false_or, or_false, true_or, or_true, true_and, and_true, false_and, and_false, not_true_eq_false, not_false_eq_true, ↓reduceIte, Option.bind_some, Option.map_some]
  rw [e1, e2]
theorem FR_ent {t s x : Nat} {τ ρ : jx_S} (u w : Int32) (h : FR t s x τ ρ) (hs : s < 64) : ∃ ρ', p_r_enter u w ρ = some ρ' ∧ FR t (s + 1) x τ ρ' := by
  obtain ⟨g1, g2, g3, g4, g5, g6, g7, g8⟩ := h
  refine ⟨jx_i (jx_i (jx_i ρ 142 s u) 143 s w) 106 52 (nI (s + 1)), by unfold p_r_enter; simp (disch := first | assumption | decide | omega) only [g6, nI_lit, cT_lt, cF_lt, cT_le, cF_le, cT_eq, cF_eq, nF_le, mF_eq, mG_eq, mT_lt, eq_self, nI_clamp, nI_add, Nat.add_zero, nI_sub, s_i_ne, s_i_eq, s_i_2, s_l_1, s_l_ne, s_l_eq, s_p_ne, s_p_eq, s_p_2, s_q_1, s_q_ne, s_q_eq, u_ne, u_eq, v_ne, v_eq, w_ne, w_eq, jI_at_in, jL_at_in, false_or, or_false, true_or, or_true, true_and, and_true, false_and, and_false, not_true_eq_false, not_false_eq_true, ↓reduceIte, Option.bind_some, Option.map_some], g1, by simp (disch := first | assumption | decide | omega) only [g2, nI_lit, cT_lt, cF_lt, cT_le, cF_le, cT_eq, cF_eq, nF_le, mF_eq, mG_eq, mT_lt, eq_self, nI_clamp, nI_add, Nat.add_zero, nI_sub, s_i_ne, s_i_eq, s_i_2, s_l_1, s_l_ne, s_l_eq, s_p_ne, s_p_eq, s_p_2, s_q_1, s_q_ne, s_q_eq, u_ne, u_eq, v_ne, v_eq, w_ne, w_eq, jI_at_in, jL_at_in, false_or, or_false, true_or, or_true, true_and, and_true, false_and, and_false, not_true_eq_false, not_false_eq_true, ↓reduceIte, Option.bind_some, Option.map_some], by simp (disch := first | assumption | decide | omega) only [g3, nI_lit, cT_lt, cF_lt, cT_le, cF_le, cT_eq, cF_eq, nF_le, mF_eq, mG_eq, mT_lt, eq_self, nI_clamp, nI_add, Nat.add_zero, nI_sub, s_i_ne, s_i_eq, s_i_2, s_l_1, s_l_ne, s_l_eq, s_p_ne, s_p_eq, s_p_2, s_q_1, s_q_ne, s_q_eq, u_ne, u_eq, v_ne, v_eq, w_ne, w_eq, jI_at_in, jL_at_in, false_or, or_false, true_or, or_true, true_and, and_true, false_and, and_false, not_true_eq_false, not_false_eq_true, ↓reduceIte, Option.bind_some, Option.map_some], by simp (disch := first | assumption | decide | omega) only [g4, nI_lit, cT_lt, cF_lt, cT_le, cF_le, cT_eq, cF_eq, nF_le, mF_eq, mG_eq, mT_lt, eq_self, nI_clamp, nI_add, Nat.add_zero, nI_sub, s_i_ne, s_i_eq, s_i_2, s_l_1, s_l_ne, s_l_eq, s_p_ne, s_p_eq, s_p_2, s_q_1, s_q_ne, s_q_eq, u_ne, u_eq, v_ne, v_eq, w_ne, w_eq, jI_at_in, jL_at_in, false_or, or_false, true_or, or_true, true_and, and_true, false_and, and_false, not_true_eq_false, not_false_eq_true, ↓reduceIte, Option.bind_some, Option.map_some], by simp (disch := first | assumption | decide | omega) only [g5, nI_lit, cT_lt, cF_lt, cT_le, cF_le, cT_eq, cF_eq, nF_le, mF_eq, mG_eq, mT_lt, eq_self, nI_clamp, nI_add, Nat.add_zero, nI_sub, s_i_ne, s_i_eq, s_i_2, s_l_1, s_l_ne, s_l_eq, s_p_ne, s_p_eq, s_p_2, s_q_1, s_q_ne, s_q_eq, u_ne, u_eq, v_ne, v_eq, w_ne, w_eq, jI_at_in, jL_at_in, false_or, or_false, true_or, or_true, true_and, and_true, false_and, and_false, not_true_eq_false, not_false_eq_true, ↓reduceIte, Option.bind_some, Option.map_some], by simp (disch := first | assumption | decide | omega) only [nI_lit, cT_lt, cF_lt, cT_le, cF_le, cT_eq, cF_eq, nF_le, mF_eq, mG_eq, mT_lt, eq_self, nI_clamp, nI_add, Nat.add_zero, nI_sub, s_i_ne, s_i_eq, s_i_2, s_l_1, s_l_ne, s_l_eq, s_p_ne, s_p_eq, s_p_2, s_q_1, s_q_ne, s_q_eq, u_ne, u_eq, v_ne, v_eq, w_ne, w_eq, jI_at_in, jL_at_in, false_or, or_false, true_or, or_true, true_and, and_true, false_and, and_false, not_true_eq_false, not_false_eq_true, ↓reduceIte, Option.bind_some, Option.map_some], by simp (disch := first | assumption | decide | omega) only [g7, nI_lit, cT_lt, cF_lt, cT_le, cF_le, cT_eq, cF_eq, nF_le, mF_eq, mG_eq, mT_lt, eq_self, nI_clamp, nI_add, Nat.add_zero, nI_sub, s_i_ne, s_i_eq, s_i_2, s_l_1, s_l_ne, s_l_eq, s_p_ne, s_p_eq, s_p_2, s_q_1, s_q_ne, s_q_eq, u_ne, u_eq, v_ne, v_eq, w_ne, w_eq, jI_at_in, jL_at_in, false_or, or_false, true_or, or_true, true_and, and_true, false_and, and_false, not_true_eq_false, not_false_eq_true, ↓reduceIte, Option.bind_some, Option.map_some], g8⟩
theorem ro3 (x y : Int32) (σ : jx_S) : p_r_readOne (nI 3) x y σ = ((p_r_take (jx_i (jx_i σ 106 52 ((σ.1 106 52) - (1 : Int32))) 106 48 ((σ.1 106 48) - (1 : Int32)))).bind fun q6 => ((p_r_take q6.2).bind fun q7 => ((p_r_node (nI 5) x q7.1 q6.1 (-1 : Int32) q7.2).bind fun q8 => (if q8.1 < 0 ∨ 3000 ≤ (q8.1).toNatClampNeg then none else (if q7.1 < 0 ∨ 3000 ≤ (q7.1).toNatClampNeg then none else ((p_r_give q8.1 (jx_i (jx_i q8.2 117 (q8.1).toNatClampNeg y) 122 (q7.1).toNatClampNeg y)).bind fun q9 => (some (q9)))))))) := by
  unfold p_r_readOne
  rw [if_neg (by decide), if_neg (by decide), if_pos (show nI 3 = 3 from rfl)]
  rfl
theorem sim_let {E : jEn} {f nf a n l : Nat} {sc : List Nat} {G : jGh} {t dn dep : Nat} {τ ρ : jx_S} {rec : Int32 → jx_S → Option (Int32 × jx_S)} (hrec : RecOK E f nf (dep + 1) rec) (h : PR E f nf a n l sc G (t + 1) dn dep τ ρ) (h138 : ρ.1 138 t = nI 1) (hk : eK E a = 5) (ht : t + 14 * (31 - dep) ≤ 3900) (hdep : dep ≤ 29) :
    SimS E f nf a n l sc G t dn dep τ ρ 0 10 (p_cRea_readLet rec (nI dep) τ) := by
  have hb := PR_bounds h
  have hx1 : nI dep + 1 = nI (dep + 1) := nI_1 dep
  have L : ∀ x : Nat, x ≤ x := Nat.le_refl
  obtain ⟨hP, hKp0, h130_0⟩ := PR_pop h
  have hB := h.2.2.1
  obtain ⟨p1, p2, p3, p4, p5, p6⟩ := pass_ok hP 5 hk (by omega)
  obtain ⟨v, τ2, τ3, v4, τ4, τ6, ρ6, c1, c2, c3, c4, c5, c6⟩ := let_head hP hdep (by omega) hk
  have g6 := hP.2.1.2.2.1
  have hs0 : RT f 1 ρ ρ6 := RT_one hB.2.2.1 hB.2.2.2.2.2.2.2.2.1 (by omega) (by rw [h138, ro1]; exact c5)
  have hcl : ∀ w1 τ7 τ8 w2 τ10 r, rec (nI (dep + 1)) τ6 = some (w1, τ7) → p_cRea_pass (nI 6) τ7 = some τ8 → rec (nI (dep + 1)) (jx_i (jI_put 30 τ8 61 (τ8.1 5 5) v) 5 5 (τ8.1 5 5 + 1)) = some (w2, τ10) → p_cRea_addNode (nI 5) (nI a) v w1 w2 0 (jx_i τ10 5 5 (τ10.1 5 5 - 1)) = some r → p_cRea_readLet rec (nI dep) τ = some r := by
    intro w1 τ7 τ8 w2 τ10 r q1 q2 q3 q4
    unfold p_cRea_readLet
    show ((p_cRea_pass (nI 5) τ).bind _) = _
    rw [p4, Option.bind_some, c1, Option.bind_some]
    show ((p_cRea_pass (nI 18) τ2).bind _) = _
    rw [c2, Option.bind_some, c3, Option.bind_some]
    show ((p_cFun_setType (τ3.1 5 7) v v4 τ4).bind _) = _
    unfold p_cFun_setType
    rw [Option.bind_some]
    show ((p_cRea_pass (nI 19) (jI_put 1200 τ4 57 (τ3.1 5 7 * 30 + v) v4)).bind _) = _
    rw [c4, Option.bind_some, hx1, q1, Option.bind_some]
    show ((p_cRea_pass (nI 6) τ7).bind _) = _
    rw [q2, Option.bind_some]
    unfold p_cRea_show
    rw [Option.bind_some, q3, Option.bind_some]
    unfold p_cRea_hide
    rw [Option.bind_some, g6]
    show ((p_cRea_addNode (nI 5) (nI a) v w1 w2 0 (jx_i τ10 5 5 (τ10.1 5 5 - 1))).bind _) = _
    rw [q4, Option.bind_some]
  have tail : ∀ σ : jx_S, σ.1 1 0 ≠ 0 → (jx_i (jI_put 30 σ 61 (σ.1 5 5) v) 5 5 (σ.1 5 5 + 1)).1 1 0 ≠ 0 := fun σ q => by rw [s_i_ne (by decide), s_p_ne (by decide)]; exact q
  have tail2 : ∀ σ : jx_S, σ.1 1 0 ≠ 0 → (jx_i σ 5 5 (σ.1 5 5 - 1)).1 1 0 ≠ 0 := fun σ q => by rw [s_i_ne (by decide)]; exact q
  have tl : ∀ w1 τ7 τ8, rec (nI (dep + 1)) τ6 = some (w1, τ7) → p_cRea_pass (nI 6) τ7 = some τ8 → τ8.1 1 0 ≠ 0 → ∃ τ', p_cRea_readLet rec (nI dep) τ = some (0, τ') ∧ τ'.1 1 = τ8.1 1 ∧ (τ'.1 29 = τ8.1 29 ∧ τ'.1 23 = τ8.1 23) := by
    intro w1 τ7 τ8 q1 q2 q3
    have n1 := tail τ8 q3
    refine ⟨_, hcl _ _ _ _ _ _ q1 q2 (hrec.1 _ _ n1) (told_addNode (tail2 _ n1) _ _ _ _ _ _), ?_, ?_⟩
    · rw [s_i_ne (by decide), s_i_ne (by decide), s_p_ne (by decide)]
    · exact ⟨by rw [s_i_ne (by decide), s_i_ne (by decide), s_p_ne (by decide)], by rw [s_i_ne (by decide), s_i_ne (by decide), s_p_ne (by decide)]⟩
  rcases c6 with ⟨t', s, x, c6⟩ | ⟨c6, c7, c8, c9, c10, c11, c12, c13, c14, c15, c16, c17, c18⟩
  · obtain ⟨τ', q1, q2⟩ := tl _ _ _ (hrec.1 _ _ c6.1) (told_pass c6.1 (by decide)) c6.1
    exact ⟨0, τ', 1, ρ6, q1, hs0, Or.inl ⟨by omega, t', s, x, FR_c c6 q2.1 ⟨by rw [q2.2.1], by rw [q2.2.2]⟩⟩⟩
  subst c6
  obtain ⟨w1, τ7, e1, ρ7, x1, x2, x3⟩ := hrec.2 _ _ _ _ _ (t + 1) _ _ _ c10 c16 (by omega)
  rcases x3 with ⟨x3, t', s, x, x4⟩ | ⟨a1, n1, l1, G1, x3, x4, hD1⟩
  · obtain ⟨τ', q1, q2⟩ := tl _ _ _ x1 (told_pass x4.1 (by decide)) x4.1
    exact ⟨0, τ', 1 + e1, ρ7, q1, RT_trans hs0 x2, Or.inl ⟨by omega, t', s, x, FR_c x4 q2.1 ⟨by rw [q2.2.1], by rw [q2.2.2]⟩⟩⟩
  have hP1 := hD1.2.2.2.2.1
  have hK1 := hD1.2.2.2.2.2.1
  have hB1 := hP1.2.2.1
  have dlt1 := hD1.1
  have hb1 := PR_bounds hP1
  obtain ⟨hP1', hKp1, h130_1⟩ := PR_pop hP1
  obtain ⟨τ8, ρ8, y1, y2, y3⟩ := pass2 6 (by omega) (by omega) (Or.inr hP1')
  have r138 : ρ7.1 138 t = nI 2 := by rw [hK1.2.2.2.1 138 (by decide) t (by omega)]; exact c13
  have r139 : ρ7.1 139 t = nI a := by rw [hK1.2.2.2.1 139 (by decide) t (by omega)]; exact c14
  have r140 : ρ7.1 140 t = nI (l + 100 * (a + 1)) := by rw [hK1.2.2.2.1 140 (by decide) t (by omega)]; exact c15
  have m1 : (l + 100 * (a + 1)) % 100 = l := by omega
  have m2 : (l + 100 * (a + 1)) / 100 = a + 1 := by omega
  have hro := ro2 (nI a) (l + 100 * (a + 1)) (jx_i ρ7 106 45 (nI t)) (by omega)
  rw [m1, m2] at hro
  rcases y3 with ⟨x, y3⟩ | ⟨y3, y4, y5, y6, y7⟩
  · obtain ⟨ρe, u1, u2⟩ := FR_ent (nI l) (nI (a + 1)) y3 (by omega)
    obtain ⟨u3, u4⟩ := FR_ltr (nI 3) (nI a) (nI l) u2 (by omega)
    obtain ⟨u5, u6⟩ := FR_ltr (nI 1) (nI 0) (nI 0) u4 (by omega)
    obtain ⟨τ', q1, q2⟩ := tl _ _ _ x1 y1 y3.1
    have hs1 : RT f 1 ρ7 _ := RT_one hB1.2.2.1 hB1.2.2.2.2.2.2.2.2.1 (by omega) (by rw [r138, r139, r140, hro, y2, Option.bind_some, u1, Option.bind_some, u3, Option.bind_some, u5, Option.bind_some])
    exact ⟨0, τ', 1 + e1 + 1, _, q1, RT_trans (RT_trans hs0 x2) hs1, Or.inl ⟨by omega, _, _, _, FR_c u6 q2.1 ⟨by rw [q2.2.1], by rw [q2.2.2]⟩⟩⟩
  have h55 : τ8.1 55 (30 * f + l) = nI (a + 1) := by
    rw [y6.2.2.2.2.2.2.1 55 (by decide) _ (by have := hD1.2.2.2.1; omega), hK1.2.2.2.2.2.2.1 55 (by decide) _ (by omega)]
    exact c17
  have hl1 := hD1.2.2.2.1
  obtain ⟨s1, s2, s3, s4, s5⟩ := PR_show l (a + 1) y5 (by omega) (by omega) h55 (by omega) c9
  obtain ⟨l1', l2, l3, l4, l5, l6, l7⟩ := PR_ltr (nI 3) (nI a) (nI l) s3 (by omega)
  obtain ⟨o1, o2, o3, o4, o5, o6, o7⟩ := PR_ltr (nI 1) (nI 0) (nI 0) l2 (by omega)
  have hs1 : RT f 1 ρ7 _ := RT_one hB1.2.2.1 hB1.2.2.2.2.2.2.2.2.1 (by omega) (by rw [r138, r139, r140, hro, y2, Option.bind_some, s2, Option.bind_some, l1', Option.bind_some, o1, Option.bind_some])
  have hshow : jx_i (jI_put 30 τ8 61 (τ8.1 5 5) (nI l)) 5 5 (τ8.1 5 5 + 1) = shw τ8 sc.length l := by
    have := s1
    unfold p_cRea_show at this
    exact Option.some.inj this
  have i0 : (ltr (ltr (ent ρ8 sc.length l (a + 1)) t (nI 3) (nI a) (nI l)) (t + 1) (nI 1) (nI 0) (nI 0)).1 138 t = nI 3 := by rw [o3.2.2.2.1 138 (by decide) t (by omega)]; exact l5
  have i1 : (ltr (ltr (ent ρ8 sc.length l (a + 1)) t (nI 3) (nI a) (nI l)) (t + 1) (nI 1) (nI 0) (nI 0)).1 139 t = nI a := by rw [o3.2.2.2.1 139 (by decide) t (by omega)]; exact l6
  have i2 : (ltr (ltr (ent ρ8 sc.length l (a + 1)) t (nI 3) (nI a) (nI l)) (t + 1) (nI 1) (nI 0) (nI 0)).1 140 t = nI l := by rw [o3.2.2.2.1 140 (by decide) t (by omega)]; exact l7
  have KA : KP f n1 l1 sc.length t (dn + 1) τ7 ρ7 (shw τ8 sc.length l) (ltr (ltr (ent ρ8 sc.length l (a + 1)) t (nI 3) (nI a) (nI l)) (t + 1) (nI 1) (nI 0) (nI 0)) := KP_trans (KP_trans (KP_trans (KP_trans hKp1 y6 (L _) (L _) (L _) (L _) (L _)) s4 (L _) (L _) (L _) (L _) (L _)) l3 (L _) (L _) (Nat.le_succ _) (L _) (L _)) o3 (L _) (L _) (Nat.le_succ _) (Nat.le_succ _) (L _)
  have q130 : (ltr (ltr (ent ρ8 sc.length l (a + 1)) t (nI 3) (nI a) (nI l)) (t + 1) (nI 1) (nI 0) (nI 0)).1 130 = ρ7.1 130 := by rw [o4, l4, s5, y7, h130_1]
  generalize ltr (ltr (ent ρ8 sc.length l (a + 1)) t (nI 3) (nI a) (nI l)) (t + 1) (nI 1) (nI 0) (nI 0) = ρ9 at *
  obtain ⟨w2, τ10, e2, ρ10, z1, z2, z3⟩ := hrec.2 _ _ _ _ _ (t + 1) _ _ _ o2 o5 (by omega)
  rcases z3 with ⟨z3, t', s, x, z4⟩ | ⟨a2, n2, l2', G2, z3, z4, hD2⟩
  · refine ⟨0, jx_i τ10 5 5 (τ10.1 5 5 - 1), 1 + e1 + 1 + e2, ρ10, hcl _ _ _ _ _ _ x1 y1 (by rw [hshow]; exact z1) (told_addNode (tail2 _ z4.1) _ _ _ _ _ _), RT_trans (RT_trans (RT_trans hs0 x2) hs1) z2, Or.inl ⟨by omega, t', s, x, FR_c z4 (s_i_ne (by decide)) ⟨by rw [s_i_ne (by decide)], by rw [s_i_ne (by decide)]⟩⟩⟩
  have hP2 := hD2.2.2.2.2.1
  have hK2 := hD2.2.2.2.2.2.1
  have hB2 := hP2.2.2.1
  have dlt2 := hD2.1
  have hb2 := PR_bounds hP2
  obtain ⟨hP2', hKp2, h130_2⟩ := PR_pop hP2
  have hP4 := PR_hide l dep hP2'
  have h55b : τ10.1 5 5 = nI (sc.length + 1) := hP2'.2.1.2.2.2.2.2.2.1
  have h52b : (jx_i ρ10 106 45 (nI t)).1 106 52 = nI (sc.length + 1) := hP2'.2.2.1.2.2.2.2.2.2.2.1
  have h48b : (jx_i ρ10 106 45 (nI t)).1 106 48 = nI (dep + 1) := hP2'.2.2.1.2.2.2.2.2.2.2.2.2.2
  have KC : KP f n2 l2' sc.length t (dn + 2) τ10 ρ10 (jx_i τ10 5 5 (nI sc.length)) (jx_i (jx_i (jx_i ρ10 106 45 (nI t)) 106 52 (nI sc.length)) 106 48 (nI dep)) := KP_same (same_i same_rfl (by decide)) (same_i (same_i (same_i same_rfl (by decide)) (by decide)) (by decide))
  have h57h : LtY f l (jx_i τ10 5 5 (nI sc.length)) := by
    obtain ⟨y, u1, u2⟩ := c18
    refine ⟨y, u1, ?_⟩
    rw [s_i_ne (by decide), hK2.2.2.2.2.2.2.1 57 (by decide) _ (by omega), KA.2.2.2.2.2.2.1 57 (by decide) _ (by omega), hK1.2.2.2.2.2.2.1 57 (by decide) _ (by omega)]
    exact u2
  obtain ⟨A1, A2, A3, A4, A5, A6, A7, A8, A9, A10⟩ := hD1
  obtain ⟨d1, d2, d3, d4, d5, d6, d7, d8, d9, d10⟩ := hD2
  have R1 : Rt (jx_i τ10 5 5 (nI sc.length)) (jx_i (jx_i (jx_i ρ10 106 45 (nI t)) 106 52 (nI sc.length)) 106 48 (nI dep)) G2 sc (n1 - 1) n (l + 1) l1 := Rt_keep (Rt_keep (Rt_keep A8 KA (by omega) rfl) d6 (by omega) (d9 _ (by omega))) KC (by omega) rfl
  have R2 : Rt (jx_i τ10 5 5 (nI sc.length)) (jx_i (jx_i (jx_i ρ10 106 45 (nI t)) 106 52 (nI sc.length)) 106 48 (nI dep)) G2 (l :: sc) (n2 - 1) n1 l1 l2' := Rt_keep d8 KC (by omega) rfl
  have D1 : (jx_i (jx_i (jx_i ρ10 106 45 (nI t)) 106 52 (nI sc.length)) 106 48 (nI dep)).1 141 dn = nI (n1 - 1) := by
    rw [KC.2.2.1 141 (by decide) dn (by omega), d6.2.2.1 141 (by decide) dn (by omega), KA.2.2.1 141 (by decide) dn (by omega)]
    exact A7
  have D2 : (jx_i (jx_i (jx_i ρ10 106 45 (nI t)) 106 52 (nI sc.length)) 106 48 (nI dep)).1 141 (dn + 1) = nI (n2 - 1) := by
    rw [KC.2.2.1 141 (by decide) (dn + 1) (by omega)]
    exact d7
  have hq : (jx_i (jx_i (jx_i ρ10 106 45 (nI t)) 106 52 (nI sc.length)) 106 48 (nI dep)).1 130 f = ρ10.1 130 f := by rw [s_i_ne (by decide), s_i_ne (by decide), h130_2]
  have j0 : ρ10.1 138 t = nI 3 := by rw [hK2.2.2.2.1 138 (by decide) t (by omega)]; exact i0
  have j1 : ρ10.1 139 t = nI a := by rw [hK2.2.2.2.1 139 (by decide) t (by omega)]; exact i1
  have j2 : ρ10.1 140 t = nI l := by rw [hK2.2.2.2.1 140 (by decide) t (by omega)]; exact i2
  have hst0 := ro3 (nI a) (nI l) (jx_i ρ10 106 45 (nI t))
  rw [h52b, h48b, show nI (sc.length + 1) - (1 : Int32) = nI sc.length from nI_pred _, show nI (dep + 1) - (1 : Int32) = nI dep from nI_pred _] at hst0
  have hs2 : ∀ ρ', p_r_readOne (nI 3) (nI a) (nI l) (jx_i ρ10 106 45 (nI t)) = some ρ' → RT f 1 ρ10 ρ' := fun ρ' q => RT_one hB2.2.2.1 hB2.2.2.2.2.2.2.2.2.1 (by omega) (by rw [j0, j1, j2]; exact q)
  have hτh : jx_i τ10 5 5 (τ10.1 5 5 - 1) = jx_i τ10 5 5 (nI sc.length) := by rw [h55b, show nI (sc.length + 1) - (1 : Int32) = nI sc.length from nI_pred _]
  have hcl2 : ∀ r, p_cRea_addNode (nI 5) (nI a) (nI l) w1 w2 0 (jx_i τ10 5 5 (nI sc.length)) = some r → p_cRea_readLet rec (nI dep) τ = some r := fun r q => hcl _ _ _ _ _ _ x1 y1 (by rw [hshow]; exact z1) (by rw [hτh]; exact q)
  clear hcl hτh tl tail tail2
  generalize jx_i (jx_i (jx_i ρ10 106 45 (nI t)) 106 52 (nI sc.length)) 106 48 (nI dep) = ρh at *
  generalize jx_i τ10 5 5 (nI sc.length) = τh at *
  obtain ⟨E1, E2, E3, E4, E5, E6, E7⟩ := R1
  obtain ⟨F1, F2, F3, F4, F5, F6, F7⟩ := R2
  have hnn := let_new (tk := a) (lo := n) (B0 := l) (r1 := n1 - 1) (r2 := n2 - 1) (sl := l) hP4 (by omega) p2 hk (by omega) (by omega) D1 D2 (by omega) (by omega) (by omega) E3 (by rw [F3]; congr 1; omega) E2 E4 F2 F4 E5 (fun s q => by rcases List.mem_cons.mp (F5 s q) with q | q; exact Or.inr q; exact Or.inl q) E6 (by rw [F6, E7]) F7 rfl (fun s q => sc_lt sc hP.2.2.2.2.1 s q) (by omega) (And.intro (by omega) h57h)
  have b9 := hP4.2.2.1.2.2.2.2.2.2.2.2.2.1
  have b4 := hP4.2.2.1.2.2.2.2.1
  have t1 := q_r_take ρh (dn + 1) b9 (by omega)
  have t2 := q_r_take (jx_i ρh 106 47 (nI (dn + 1))) dn (by simp (disch := first | assumption | decide | omega) only [nI_lit, cT_lt, cF_lt, cT_le, cF_le, cT_eq, cF_eq, nF_le, mF_eq, mG_eq, mT_lt, eq_self, nI_clamp, nI_add, Nat.add_zero, nI_sub, s_i_ne, s_i_eq, s_i_2, s_l_1, s_l_ne, s_l_eq, s_p_ne, s_p_eq, s_p_2, s_q_1, s_q_ne, s_q_eq, u_ne, u_eq, v_ne, v_eq, w_ne, w_eq, jI_at_in, jL_at_in, false_or, or_false, true_or, or_true, true_and, and_true, false_and, and_false, not_true_eq_false, not_false_eq_true, ↓reduceIte, Option.bind_some, Option.map_some]) (by omega)
  rw [s_i_ne (by decide), D1] at t2
  have t3 := q_r_node_in (jx_i (jx_i ρh 106 47 (nI (dn + 1))) 106 47 (nI dn)) n2 (n1 - 1) (nI 5) (nI a) (nI (n2 - 1)) (-1) (by simp (disch := first | assumption | decide | omega) only [b4, nI_lit, cT_lt, cF_lt, cT_le, cF_le, cT_eq, cF_eq, nF_le, mF_eq, mG_eq, mT_lt, eq_self, nI_clamp, nI_add, Nat.add_zero, nI_sub, s_i_ne, s_i_eq, s_i_2, s_l_1, s_l_ne, s_l_eq, s_p_ne, s_p_eq, s_p_2, s_q_1, s_q_ne, s_q_eq, u_ne, u_eq, v_ne, v_eq, w_ne, w_eq, jI_at_in, jL_at_in, false_or, or_false, true_or, or_true, true_and, and_true, false_and, and_false, not_true_eq_false, not_false_eq_true, ↓reduceIte, Option.bind_some, Option.map_some]) (by omega) (by omega)
  rw [s_i_ne (by decide), s_i_ne (by decide), E3] at t3
  have t4 := q_r_give (jx_i (jx_i (rnode (jx_i (jx_i ρh 106 47 (nI (dn + 1))) 106 47 (nI dn)) n2 (nI 5) (nI a) (nI (n1 - 1)) (nI (n2 - 1)) (-1) (nI n)) 117 n2 (nI l)) 122 (n1 - 1) (nI l)) dn n2 (by unfold rnode; simp (disch := first | assumption | decide | omega) only [nI_lit, cT_lt, cF_lt, cT_le, cF_le, cT_eq, cF_eq, nF_le, mF_eq, mG_eq, mT_lt, eq_self, nI_clamp, nI_add, Nat.add_zero, nI_sub, s_i_ne, s_i_eq, s_i_2, s_l_1, s_l_ne, s_l_eq, s_p_ne, s_p_eq, s_p_2, s_q_1, s_q_ne, s_q_eq, u_ne, u_eq, v_ne, v_eq, w_ne, w_eq, jI_at_in, jL_at_in, false_or, or_false, true_or, or_true, true_and, and_true, false_and, and_false, not_true_eq_false, not_false_eq_true, ↓reduceIte, Option.bind_some, Option.map_some]) (by omega)
  rw [t1, Option.bind_some, D2, t2, Option.bind_some, t3, Option.bind_some] at hst0
  dsimp only at hst0
  rw [if_neg (nI_in (show n2 < 3000 by omega) (by omega)), if_neg (nI_in (show n1 - 1 < 3000 by omega) (by omega)), nI_clamp (show n2 < 2 ^ 31 by omega), nI_clamp (show n1 - 1 < 2 ^ 31 by omega), t4, Option.bind_some] at hst0
  clear t1 t2 t3 t4
  generalize gv (jx_i (jx_i (rnode (jx_i (jx_i ρh 106 47 (nI (dn + 1))) 106 47 (nI dn)) n2 (nI 5) (nI a) (nI (n1 - 1)) (nI (n2 - 1)) (-1) (nI n)) 117 n2 (nI l)) 122 (n1 - 1) (nI l)) dn n2 = ρ11 at hnn hst0
  obtain ⟨τ11, G5, N1, N3, N5, N6, N7, ⟨N8, N8a⟩, N9, N10⟩ := hnn
  have N8b : gA G5 (n2 + 1 - 1) = 0 := N8a
  rw [show n1 - 1 + 1 = n1 by omega, show n2 - 1 + 1 = n2 by omega] at N1
  refine ⟨nI (n2 + 1), τ11, 1 + e1 + 1 + e2 + 1, ρ11, hcl2 _ (by rw [x4, z4]; exact N1), RT_trans (RT_trans (RT_trans (RT_trans hs0 x2) hs1) z2) (hs2 _ hst0), Or.inr ⟨a2, n2 + 1, l2', G5, by omega, rfl, by omega, by omega, by omega, by omega, N3, ?_, N6, N7, fun j hj => ?_, ?_⟩⟩
  · exact KP_trans (KP_trans (KP_trans (KP_trans (KP_trans (KP_trans (KP_trans hKp0 c11 (L _) (L _) (L _) (L _) (L _)) A6 (L _) (Nat.le_succ l) (L _) (Nat.le_succ t) (L _)) KA (by omega) (by omega) (L _) (L _) (by omega)) d6 (by omega) (by omega) (Nat.le_succ _) (Nat.le_succ t) (by omega)) KC (by omega) (by omega) (L _) (L _) (by omega)) (N5 n l sc.length t (L _)) (L _) (L _) (L _) (L _) (L _)) KP_refl (L _) (L _) (L _) (L _) (L _)
  · rw [N8 j (by omega), d9 j (by omega), A9 j hj]
  · have q7 : ∀ j, j < n2 → ρ11.1 112 j = ρ10.1 112 j := fun j hj => by rw [N10, u_ne (by omega), KC.2.1 112 (by decide) j hj]
    have q4 : ∀ j, j < n1 → ρ10.1 112 j = ρ7.1 112 j := fun j hj => by rw [d6.2.1 112 (by decide) j hj, KA.2.1 112 (by decide) j hj]
    rw [N9, hq, d10, q130, A10, c12, h130_0, show n2 + 1 - n = (n2 - n) + 1 by omega, letc_yes (by rw [show n + (n2 - n) = n2 by omega, N10, u_eq rfl])]
    rw [show n2 - n = (n1 - n) + (n2 - n1) by omega, letc_add, show n + (n1 - n) = n1 by omega]
    rw [letc_congr (g := ρ7.1 112) (g' := ρ11.1 112) (n1 - n) (fun j hj => by rw [q7 _ (by omega), q4 _ (by omega)]), letc_congr (g := ρ10.1 112) (g' := ρ11.1 112) (n2 - n1) (fun j hj => by rw [q7 _ (by omega)])]
    rw [← nI_add, ← nI_add, Int32.add_assoc, Int32.add_assoc, Int32.add_comm (1 : Int32), ← Int32.add_assoc]
    rw [Int32.add_assoc]
    rfl
