/-! READER, 18: comparisons. -/
theorem ro21 (x y : Int32) (σ : jx_S) : p_r_readOne (nI 21) x y σ = some (jx_i σ 106 48 (σ.1 106 48 - 1)) := by
  unfold p_r_readOne p_r_readMore
  simp (disch := first | assumption | decide | omega) only [ob_id, nI_lit, cT_lt, cF_lt, cT_le, cF_le, cT_eq, cF_eq, nF_le, mF_eq, mG_eq, mT_lt, eq_self, nI_clamp, nI_add, Nat.add_zero, nI_sub, s_i_ne, s_i_eq, s_i_2, s_l_1, s_l_ne, s_l_eq, s_p_ne, s_p_eq, s_p_2, s_q_1, s_q_ne, s_q_eq, u_ne, u_eq, v_ne, v_eq, w_ne, w_eq, jI_at_in, jL_at_in, false_or, or_false, true_or, or_true, true_and, and_true, false_and, and_false, not_true_eq_false, not_false_eq_true, ↓reduceIte, Option.bind_some, Option.map_some]
theorem PR_dep {E : jEn} {f nf a n l : Nat} {sc : List Nat} {G : jGh} {t dn dep : Nat} {τ ρ : jx_S} (d' : Nat) (h : PR E f nf a n l sc G t dn dep τ ρ) : PR E f nf a n l sc G t dn d' τ (jx_i ρ 106 48 (nI d')) ∧ (∀ n0 l0 s0 t0 dn0, KP f n0 l0 s0 t0 dn0 τ ρ τ (jx_i ρ 106 48 (nI d'))) := by
  have hb := PR_bounds h
  exact ⟨PR_move h same_rfl (same_i same_rfl (by decide)) h.2.1 (PB_dep h.2.2.1) (Nat.le_refl _) (by omega) (by omega), fun _ _ _ _ _ => KP_same same_rfl (same_i same_rfl (by decide))⟩
/-- the end of an expression: one level less deep -/
theorem out_step {E : jEn} {f nf a n l : Nat} {sc : List Nat} {G : jGh} {t dn dep : Nat} {τ ρ : jx_S} (h : PR E f nf a n l sc G (t + 1) dn (dep + 1) τ ρ) (h138 : ρ.1 138 t = nI 21) (ht : t < 4000) : ∃ ρ', RT f 1 ρ ρ' ∧ PR E f nf a n l sc G t dn dep τ ρ' ∧ (∀ n0 l0 s0 dn0, KP f n0 l0 s0 t dn0 τ ρ τ ρ') ∧ ρ'.1 130 = ρ.1 130 := by
  obtain ⟨hP, hK, h130⟩ := PR_pop h
  obtain ⟨hP2, hK2⟩ := PR_dep dep hP
  have hB := h.2.2.1
  have h48 := hP.2.2.1.2.2.2.2.2.2.2.2.2.2
  refine ⟨jx_i (jx_i ρ 106 45 (nI t)) 106 48 (nI dep), RT_one hB.2.2.1 hB.2.2.2.2.2.2.2.2.1 ht ?_, hP2, fun n0 l0 s0 dn0 => ?_, by rw [s_i_ne (by decide), h130]⟩
  · rw [h138, ro21, h48, show nI (dep + 1) - 1 = nI dep from nI_pred dep]
  · exact KP_same same_rfl (same_i (same_i same_rfl (by decide)) (by decide))
theorem ro18_no {a k : Nat} {x y : Int32} {σ : jx_S} (h40 : σ.1 106 40 = nI a) (ha : a < 1202) (h8 : σ.1 108 a = nI k) (hk : k < 100) (h1 : k ≠ 19) (h2 : k ≠ 27) : p_r_readOne (nI 18) x y σ = some σ := by
  unfold p_r_readOne p_r_readMore
  simp (disch := first | assumption | decide | omega) only [h40, h8, ob_id, nI_lit, cT_lt, cF_lt, cT_le, cF_le, cT_eq, cF_eq, nF_le, mF_eq, mG_eq, mT_lt, eq_self, nI_clamp, nI_add, Nat.add_zero, nI_sub, s_i_ne, s_i_eq, s_i_2, s_l_1, s_l_ne, s_l_eq, s_p_ne, s_p_eq, s_p_2, s_q_1, s_q_ne, s_q_eq, u_ne, u_eq, v_ne, v_eq, w_ne, w_eq, jI_at_in, jL_at_in, false_or, or_false, true_or, or_true, true_and, and_true, false_and, and_false, not_true_eq_false, not_false_eq_true, ↓reduceIte, Option.bind_some, Option.map_some]
theorem ro18_go {a k : Nat} {x y : Int32} {σ : jx_S} (h40 : σ.1 106 40 = nI a) (ha : a < 1202) (h8 : σ.1 108 a = nI k) (hk : k < 100) (h1 : k = 19 ∨ k = 27) : p_r_readOne (nI 18) x y σ = p_r_readMore_449 σ := by
  unfold p_r_readOne p_r_readMore
  rcases h1 with h1 | h1 <;> subst h1 <;> simp (disch := first | assumption | decide | omega) only [h40, h8, ob_id, nI_lit, cT_lt, cF_lt, cT_le, cF_le, cT_eq, cF_eq, nF_le, mF_eq, mG_eq, mT_lt, eq_self, nI_clamp, nI_add, Nat.add_zero, nI_sub, s_i_ne, s_i_eq, s_i_2, s_l_1, s_l_ne, s_l_eq, s_p_ne, s_p_eq, s_p_2, s_q_1, s_q_ne, s_q_eq, u_ne, u_eq, v_ne, v_eq, w_ne, w_eq, jI_at_in, jL_at_in, false_or, or_false, true_or, or_true, true_and, and_true, false_and, and_false, not_true_eq_false, not_false_eq_true, ↓reduceIte, Option.bind_some, Option.map_some]
theorem sim_cmp {E : jEn} {f nf a n l : Nat} {sc : List Nat} {G : jGh} {t dn dep : Nat} {τ ρ : jx_S} {rec : Int32 → jx_S → Option (Int32 × jx_S)} (hrec : RecOK E f nf (dep + 1) rec) (h : PR E f nf a n l sc G (t + 3) dn (dep + 1) τ ρ) (h21 : ρ.1 138 t = nI 21) (h18 : ρ.1 138 (t + 1) = nI 18) (h10 : ρ.1 138 (t + 2) = nI 10) (ht : t + 14 * (31 - dep) ≤ 3900) (hdep : dep ≤ 29) : SimS E f nf a n l sc G t dn dep τ ρ 6 9 (p_cRea_readComparison rec (nI dep) τ) := by
  have hb := PR_bounds h
  have hx1 : nI dep + 1 = nI (dep + 1) := nI_1 dep
  obtain ⟨v1, τ1, e1, ρ1, z1, z2, z3⟩ := sim_sum hrec hx1 h h10 (by omega) (by omega)
  rcases z3 with ⟨z3, t', s, x, z4⟩ | ⟨a1, n1, l1, G1, z3, z4, hD⟩
  · refine ⟨v1, τ1, e1, ρ1, ?_, z2, Or.inl ⟨by omega, t', s, x, z4⟩⟩
    unfold p_cRea_readComparison
    rw [z1, Option.bind_some, told_kind z4.1]
    rfl
  have hP1 := hD.2.2.2.2.1
  have hKD := hD.2.2.2.2.2.1
  have hb1 := PR_bounds hP1
  have dlt := hD.1
  have hB1 := hP1.2.2.1
  have q18 : ρ1.1 138 (t + 1) = nI 18 := by rw [hKD.2.2.2.1 138 (by decide) (t + 1) (by omega)]; exact h18
  have q21 : ρ1.1 138 t = nI 21 := by rw [hKD.2.2.2.1 138 (by decide) t (by omega)]; exact h21
  obtain ⟨hP, hK, h130⟩ := PR_pop hP1
  obtain ⟨kc, k1, k2, k3, k4, k5, k6⟩ := kind_ne hP
  have g6 := hP.2.1.2.2.1
  by_cases hs : eK E a1 = 19 ∨ eK E a1 = 27
  · have hkc : kc = eK E a1 := by omega
    obtain ⟨l1', l2, l3, l4, l5, l6, l7⟩ := PR_ltr (nI 19) (nI a1) (nI 0) hP (by omega)
    obtain ⟨m1, m2, m3, m4, m5, m6, m7⟩ := PR_ltr (nI 10) (nI 0) (nI 0) l2 (by omega)
    obtain ⟨p1, p2, p3, p4, p5, p6⟩ := pass_ok m2 (eK E a1) rfl (by omega)
    have hst : p_r_readMore_449 (jx_i ρ1 106 45 (nI (t + 1))) = some (jx_i (ltr (ltr (jx_i ρ1 106 45 (nI (t + 1))) (t + 1) (nI 19) (nI a1) (nI 0)) (t + 1 + 1) (nI 10) (nI 0) (nI 0)) 106 40 (nI (a1 + 1))) := by
      have q40 := m2.2.2.1.2.2.2.1
      unfold p_r_readMore_449
      simp (disch := first | assumption | decide | omega) only [k3, l1', m1, q40, nI_lit, cT_lt, cF_lt, cT_le, cF_le, cT_eq, cF_eq, nF_le, mF_eq, mG_eq, mT_lt, eq_self, nI_clamp, nI_add, Nat.add_zero, nI_sub, s_i_ne, s_i_eq, s_i_2, s_l_1, s_l_ne, s_l_eq, s_p_ne, s_p_eq, s_p_2, s_q_1, s_q_ne, s_q_eq, u_ne, u_eq, v_ne, v_eq, w_ne, w_eq, jI_at_in, jL_at_in, false_or, or_false, true_or, or_true, true_and, and_true, false_and, and_false, not_true_eq_false, not_false_eq_true, ↓reduceIte, Option.bind_some, Option.map_some]
    have hstep : RT f 1 ρ1 _ := RT_one hB1.2.2.1 hB1.2.2.2.2.2.2.2.2.1 (by omega) (by rw [q18, ro18_go k3 k4 k2 (by omega) hs]; exact hst)
    generalize ltr (ltr (jx_i ρ1 106 45 (nI (t + 1))) (t + 1) (nI 19) (nI a1) (nI 0)) (t + 1 + 1) (nI 10) (nI 0) (nI 0) = ρ3 at *
    have KK : KP f n1 l1 sc.length (t + 1) (dn + 1) τ1 ρ1 (jx_i τ1 5 6 (nI (a1 + 1))) (jx_i ρ3 106 40 (nI (a1 + 1))) := KP_trans (KP_trans (KP_trans hK l3 (Nat.le_refl _) (Nat.le_refl _) (Nat.le_refl _) (Nat.le_refl _) (Nat.le_refl _)) m3 (Nat.le_refl _) (Nat.le_refl _) (Nat.le_refl _) (by omega) (Nat.le_refl _)) p6 (Nat.le_refl _) (Nat.le_refl _) (Nat.le_refl _) (by omega) (Nat.le_refl _)
    have j0 : (jx_i ρ3 106 40 (nI (a1 + 1))).1 138 (t + 1) = nI 19 := by rw [s_i_ne (by decide), m3.2.2.2.1 138 (by decide) (t + 1) (by omega)]; exact l5
    have j1 : (jx_i ρ3 106 40 (nI (a1 + 1))).1 139 (t + 1) = nI a1 := by rw [s_i_ne (by decide), m3.2.2.2.1 139 (by decide) (t + 1) (by omega)]; exact l6
    have j2 : (jx_i ρ3 106 40 (nI (a1 + 1))).1 138 (t + 1 + 1) = nI 10 := by rw [s_i_ne (by decide)]; exact m5
    have j3 : (jx_i ρ3 106 40 (nI (a1 + 1))).1 138 t = nI 21 := by rw [KK.2.2.2.1 138 (by decide) t (by omega)]; exact q21
    have q130 : (jx_i ρ3 106 40 (nI (a1 + 1))).1 130 f = ρ1.1 130 f := by rw [s_i_ne (by decide), m4, l4, h130]
    obtain ⟨v2, τ2, e2, ρ4, y1, y2, y3⟩ := sim_sum hrec hx1 p5 j2 (by omega) (by omega)
    have hcl : ∀ r, p_cRea_addNode (nI (eK E a1)) (nI a1) 0 v1 v2 0 τ2 = some r → p_cRea_readComparison rec (nI dep) τ = some r := by
      intro r q
      unfold p_cRea_readComparison p_cRea_readComparison_26
      rw [z1, Option.bind_some]
      dsimp only
      rw [k1, hkc, g6, p4, Option.bind_some, y1, Option.bind_some, q, Option.bind_some]
      rcases hs with hs | hs <;> rw [hs] <;> rfl
    rcases y3 with ⟨y3, t', s, x, y4⟩ | ⟨a4, n4, l4', G4, y3, y4, hD2⟩
    · exact ⟨0, τ2, e1 + 1 + e2, ρ4, hcl _ (told_addNode y4.1 _ _ _ _ _ _), RT_trans (RT_trans z2 hstep) y2, Or.inl ⟨by omega, t', s, x, y4⟩⟩
    · have hP4 := hD2.2.2.2.2.1
      have hK4 := hD2.2.2.2.2.2.1
      have dlt2 := hD2.1
      obtain ⟨hP5, hK5, h1305⟩ := PR_pop hP4
      have hb4 := PR_bounds hP5
      have cnt1 := hD.2.2.1
      have cnt2 := hD2.2.2.1
      have hn1 := hD.2.1
      have hn2 := hD2.2.1
      have hB4 := hP4.2.2.1
      obtain ⟨τ5, ρ6, G5, w1, w2, w3, w4⟩ := two_done (t := t) (tp := t + 1) (a := a) (tk := a1) (eK E a1) (KP_refl (f := f) (n := n) (l := l) (s := sc.length) (t := t) (dn := dn) (τ := τ) (ρ := ρ)) rfl hD (by omega) (KP_trans (n' := n1) (l' := l1) (s' := sc.length) (t' := t + 1) (dn' := dn + 1) KP_refl KK (Nat.le_refl _) (Nat.le_refl _) (Nat.le_refl _) (Nat.le_succ t) (Nat.le_refl _)) q130 hD2 (by omega) hP5 (KP_trans (n' := n4) (l' := l4') (s' := sc.length) (t' := t + 1) (dn' := dn + 2) KP_refl hK5 (Nat.le_refl _) (Nat.le_refl _) (Nat.le_refl _) (Nat.le_succ t) (Nat.le_refl _)) (by rw [h1305]) p2 rfl (by omega) (by omega) (by omega) (fun s q => sc_lt sc h.2.2.2.2.1 s q) (by omega) (by omega)
      have i4 : ρ4.1 138 (t + 1) = nI 19 := by rw [hK4.2.2.2.1 138 (by decide) (t + 1) (by omega)]; exact j0
      have i5 : ρ4.1 139 (t + 1) = nI a1 := by rw [hK4.2.2.2.1 139 (by decide) (t + 1) (by omega)]; exact j1
      have i6 : ρ6.1 138 t = nI 21 := by rw [w4 (t + 1) 138 (by decide) t (by omega), s_i_ne (by decide), hK4.2.2.2.1 138 (by decide) t (by omega)]; exact j3
      have hstep2 : RT f 1 ρ4 ρ6 := RT_one hB4.2.2.1 hB4.2.2.2.2.2.2.2.2.1 (by omega) (by rw [i4, i5, ro19 E a1 _ _ hP5.2.2.1.1 p2 hb.1]; exact w2)
      obtain ⟨ρ7, o1, o2, o3, o4⟩ := out_step w3.2.2.2.2.1 i6 (by omega)
      have hga := w3.2.2.1
      exact ⟨nI (n4 + 1), τ5, e1 + 1 + e2 + 1 + 1, ρ7, hcl _ (by rw [z4, y4]; exact w1), RT_trans (RT_trans (RT_trans (RT_trans z2 hstep) y2) hstep2) o1, Or.inr ⟨a4, n4 + 1, l4', G5, by omega, rfl, Done_wrap w3 KP_refl rfl (Nat.le_refl _) (Nat.le_refl _) o2 (o3 _ _ _ _) (by rw [o4]) (Nat.le_refl _)⟩⟩
  · have hstep : RT f 1 ρ1 (jx_i ρ1 106 45 (nI (t + 1))) := RT_one hB1.2.2.1 hB1.2.2.2.2.2.2.2.2.1 (by omega) (by rw [q18, ro18_no k3 k4 k2 (by omega) (fun q => hs (Or.inl q)) (fun q => hs (Or.inr q))])
    obtain ⟨ρ7, o1, o2, o3, o4⟩ := out_step hP (by rw [s_i_ne (by decide)]; exact q21) (by omega)
    have hga := hD.2.2.1
    refine ⟨nI n1, τ1, e1 + 1 + 1, ρ7, ?_, RT_trans (RT_trans z2 hstep) o1, Or.inr ⟨a1, n1, l1, G1, by omega, rfl, Done_wrap hD KP_refl rfl (Nat.le_refl _) (by omega) o2 (KP_trans (t' := t) (KP_same same_rfl (same_i same_rfl (by decide))) (o3 _ _ _ _) (Nat.le_refl _) (Nat.le_refl _) (Nat.le_refl _) (Nat.le_refl _) (Nat.le_refl _)) (by rw [o4, h130]) (Nat.le_refl _)⟩⟩
    unfold p_cRea_readComparison
    rw [z1, Option.bind_some]
    dsimp only
    rw [k1, if_neg (fun q => by have := (nI_eq (b := 19) (by omega) (by omega)).mp q; omega), if_neg (fun q => by have := (nI_eq (b := 27) (by omega) (by omega)).mp q; omega), z4]
