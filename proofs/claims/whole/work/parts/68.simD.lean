/-! READER, 15: calls; terms and sums. -/
theorem sim_call {E : jEn} {f nf a n l : Nat} {sc : List Nat} {G : jGh} {t dn dep : Nat} {τ ρ : jx_S} {rec : Int32 → jx_S → Option (Int32 × jx_S)} {x1 : Int32} (hrec : RecOK E f nf dep rec) (hx1 : x1 + 1 = nI dep) (h : PR E f nf a n l sc G (t + 1) dn dep τ ρ) (h138 : ρ.1 138 t = nI 14) (ht : t + 3 + 14 * (31 - dep) ≤ 3900) (hdp : 1 ≤ dep ∧ dep ≤ 30) : SimO E f nf a n l sc G t dn dep τ ρ 14 4 (p_cRea_readCall rec x1 τ) := by
  by_cases c14 : eK E a = 14
  · exact sim_cons hrec hx1 h h138 ht c14
  have hb := PR_bounds h
  obtain ⟨hP, hK, h130⟩ := PR_pop h
  have hB := h.2.2.1
  obtain ⟨kc, k1, k2, k3, k4, k5, k6⟩ := kind_ne hP
  have g6 := hP.2.1.2.2.1
  by_cases c1 : eK E a = 1
  · obtain ⟨l1, l2, l3, l4, l5, l6, l7⟩ := PR_ltr (nI 15) (nI a) (nI 0) hP (by omega)
    obtain ⟨p1, p2, p3, p4, p5, p6⟩ := pass_ok l2 1 c1 (by omega)
    have hst : p_r_readOne (ρ.1 138 t) (ρ.1 139 t) (ρ.1 140 t) (jx_i ρ 106 45 (nI t)) = some (jx_i (ltr (jx_i ρ 106 45 (nI t)) t (nI 15) (nI a) (nI 0)) 106 40 (nI (a + 1))) := by
      have q40 := l2.2.2.1.2.2.2.1
      rw [h138]
      unfold p_r_readOne p_r_readMore
      simp (disch := first | assumption | decide | omega) only [k3, k2, c1, l1, q40, nI_lit, cT_lt, cF_lt, cT_le, cF_le, cT_eq, cF_eq, nF_le, mF_eq, mG_eq, mT_lt, eq_self, nI_clamp, nI_add, Nat.add_zero, nI_sub, s_i_ne, s_i_eq, s_i_2, s_l_1, s_l_ne, s_l_eq, s_p_ne, s_p_eq, s_p_2, s_q_1, s_q_ne, s_q_eq, u_ne, u_eq, v_ne, v_eq, w_ne, w_eq, jI_at_in, jL_at_in, false_or, or_false, true_or, or_true, true_and, and_true, false_and, and_false, not_true_eq_false, not_false_eq_true, ↓reduceIte, Option.bind_some, Option.map_some]
    have hstep : RT f 1 ρ _ := RT_one hB.2.2.1 hB.2.2.2.2.2.2.2.2.1 (by omega) hst
    have KK := KP_trans (KP_trans hK l3 (Nat.le_refl _) (Nat.le_refl _) (Nat.le_refl _) (Nat.le_refl _) (Nat.le_refl _)) p6 (Nat.le_refl _) (Nat.le_refl _) (Nat.le_refl _) (Nat.le_succ t) (Nat.le_refl _)
    have q138 : (jx_i (ltr (jx_i ρ 106 45 (nI t)) t (nI 15) (nI a) (nI 0)) 106 40 (nI (a + 1))).1 138 t = nI 15 := by rw [s_i_ne (by decide)]; exact l5
    have q139 : (jx_i (ltr (jx_i ρ 106 45 (nI t)) t (nI 15) (nI a) (nI 0)) 106 40 (nI (a + 1))).1 139 t = nI a := by rw [s_i_ne (by decide)]; exact l6
    have q140 : (jx_i (ltr (jx_i ρ 106 45 (nI t)) t (nI 15) (nI a) (nI 0)) 106 40 (nI (a + 1))).1 140 t = nI 0 := by rw [s_i_ne (by decide)]; exact l7
    have q130 : (jx_i (ltr (jx_i ρ 106 45 (nI t)) t (nI 15) (nI a) (nI 0)) 106 40 (nI (a + 1))).1 130 = ρ.1 130 := by rw [s_i_ne (by decide), l4, h130]
    generalize jx_i (ltr (jx_i ρ 106 45 (nI t)) t (nI 15) (nI a) (nI 0)) 106 40 (nI (a + 1)) = ρ2 at *
    obtain ⟨v, τ', k, ρ', y1, y2, y3⟩ := name_loop hrec hx1 ht p2 c1 (fun s q => sc_lt sc hP.2.2.2.2.1 s q) hb.2.2.2.2.2.2.2 hb.2.2.1 hdp 1300 0 (a + 1) n l G (fun _ => 0) (jx_i τ 5 6 (nI (a + 1))) ρ2 100000000 (by omega) (by omega) p5 q138 q139 q140 KK (fun j _ => rfl) (by rw [q130, Nat.sub_self]; exact (nI_z _).symm) ⟨fun q hq => absurd hq (by omega), fun q hq => absurd hq (by omega), fun _ => ⟨rfl, rfl⟩, fun q => absurd q (by omega)⟩ (fun q hq => absurd hq (by omega)) (Nat.le_refl n) (Nat.le_refl l) (by omega) (by omega) (by omega)
    refine ⟨v, τ', 1 + k, ρ', ?_, RT_trans hstep y2, ?_⟩
    · unfold p_cRea_readCall p_cRea_readCall_72
      rw [p1, if_pos (by decide), if_pos (show nI 1 = 1 from rfl), g6]
      show ((p_cRea_pass (nI 1) τ).bind _) = _
      rw [p4, Option.bind_some]
      exact y1
    · rcases y3 with ⟨y3, y4⟩ | ⟨a2, n2, l2, G2, y3, y4, y5, y6⟩
      · exact Or.inl ⟨by omega, y4⟩
      · exact Or.inr ⟨a2, n2, l2, G2, by omega, y4, y6⟩
  · obtain ⟨l1, l2, l3, l4, l5, l6, l7⟩ := PR_ltr (nI 16) (nI 0) (nI 0) hP (by omega)
    have hst : p_r_readOne (ρ.1 138 t) (ρ.1 139 t) (ρ.1 140 t) (jx_i ρ 106 45 (nI t)) = some (ltr (jx_i ρ 106 45 (nI t)) t (nI 16) (nI 0) (nI 0)) := by
      rw [h138]
      unfold p_r_readOne p_r_readMore
      simp (disch := first | assumption | decide | omega) only [k3, k2, l1, nI_lit, cT_lt, cF_lt, cT_le, cF_le, cT_eq, cF_eq, nF_le, mF_eq, mG_eq, mT_lt, eq_self, nI_clamp, nI_add, Nat.add_zero, nI_sub, s_i_ne, s_i_eq, s_i_2, s_l_1, s_l_ne, s_l_eq, s_p_ne, s_p_eq, s_p_2, s_q_1, s_q_ne, s_q_eq, u_ne, u_eq, v_ne, v_eq, w_ne, w_eq, jI_at_in, jL_at_in, false_or, or_false, true_or, or_true, true_and, and_true, false_and, and_false, not_true_eq_false, not_false_eq_true, ↓reduceIte, Option.bind_some, Option.map_some]
    have hstep : RT f 1 ρ _ := RT_one hB.2.2.1 hB.2.2.2.2.2.2.2.2.1 (by omega) hst
    have hS := SimO_wrap (sl := 14) (fb := 4) (SimO_of (sim_atom hrec hx1 l2 l5 (by omega))) hstep (KP_trans hK l3 (Nat.le_refl _) (Nat.le_refl _) (Nat.le_refl _) (Nat.le_refl _) (Nat.le_refl _)) (by rw [l4, h130]) (Nat.le_refl a) (by omega) (by omega)
    have e : p_cRea_readCall rec x1 τ = p_cRea_readAtom rec x1 τ := by
      unfold p_cRea_readCall
      rw [k1, if_pos (fun q => by have := (nI_eq (b := 14) (by omega) (by omega)).mp q; omega), if_neg (fun q => by have := (nI_eq (b := 1) (by omega) (by omega)).mp q; omega), ob_pr]
    rw [e]
    exact hS
