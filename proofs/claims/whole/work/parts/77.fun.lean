/-! READER, 24: types and parameters. -/
theorem shut_type {t s x : Nat} {τ τ1 ρ ρ1 : jx_S} {v w : Int32} (h1 : p_cRea_readBase τ = some (v, τ1)) (h2 : p_r_baseType ρ = some (w, ρ1)) (hF : FR t s x τ1 ρ1) : p_cRea_readType τ = some (v, τ1) ∧ p_r_typeText ρ = some (w, ρ1) := by
  refine ⟨?_, ?_⟩
  · unfold p_cRea_readType
    rw [h1, Option.bind_some]
    dsimp only
    rw [told_kind hF.1]
    rfl
  · unfold p_r_typeText
    rw [h2, Option.bind_some]
    dsimp only
    rw [if_pos hF.2.1]
theorem type2 {E : jEn} {f nf a n l : Nat} {sc : List Nat} {G : jGh} {t dn dep : Nat} {τ ρ : jx_S} (hX : (∃ x, FR t sc.length x τ ρ) ∨ PR E f nf a n l sc G t dn dep τ ρ) :
    ∃ v w τ1 ρ1, p_cRea_readType τ = some (v, τ1) ∧ p_r_typeText ρ = some (w, ρ1) ∧ ((∃ x, FR t sc.length x τ1 ρ1) ∨ (v = w ∧ (∃ y, y < 14 ∧ v = nI y) ∧ ∃ a', a < a' ∧ PR E f nf a' n l sc G t dn dep τ1 ρ1 ∧ KP f n l sc.length t dn τ ρ τ1 ρ1 ∧ ρ1.1 130 = ρ.1 130)) := by
  have L : ∀ x : Nat, x ≤ x := Nat.le_refl
  obtain ⟨v1, w1, τ1, ρ1, b1, b2, b3⟩ := base2 hX
  rcases b3 with ⟨x, b3⟩ | ⟨b3, b4, b5, b6, b7, b8⟩
  · obtain ⟨e1, e2⟩ := shut_type b1 b2 b3
    exact ⟨_, _, _, _, e1, e2, Or.inl ⟨x, b3⟩⟩
  subst b3
  obtain ⟨y1, hy1, hv1⟩ : ∃ y, y < 2 ∧ v1 = nI y := by
    rcases b4 with b4 | b4
    · exact ⟨0, by omega, b4⟩
    · exact ⟨1, by omega, b4⟩
  subst hv1
  obtain ⟨kc, k1, k2, k3, k4, k5, k6⟩ := kind_ne b6
  have h41 := b6.2.2.1.2.2.1
  by_cases c : eK E (a + 1) = 21
  rotate_left
  · refine ⟨nI y1, nI y1, τ1, ρ1, ?_, ?_, Or.inr ⟨rfl, ⟨y1, by omega, rfl⟩, a + 1, by omega, b6, b7, b8⟩⟩
    · unfold p_cRea_readType
      rw [b1, Option.bind_some]
      dsimp only
      rw [k1, if_neg (fun q => by have := (nI_eq (b := 21) (by omega) (by omega)).mp q; omega)]
    · unfold p_r_typeText
      rw [b2, Option.bind_some]
      dsimp only
      rw [h41, k3, if_neg (by decide), if_neg (nI_in (show a + 1 < 1202 by omega) (by omega)), nI_clamp (by omega), k2, if_neg (fun q => by have := (nI_eq (b := 21) (by omega) (by omega)).mp q; omega)]
  obtain ⟨p1, p2, p3, p4, p5, p6⟩ := pass_ok b6 21 c (by omega)
  obtain ⟨v2, w2, τ3, ρ3, c1, c2, c3⟩ := base2 (Or.inr p5)
  have hcl : ∀ r, (if (v_cRea_kind τ3) = (21 : Int32) then ((p_cRea_pass (21 : Int32) τ3).bind fun q4 => ((p_cRea_readBase q4).bind fun q5 => (some ((((((6 : Int32) + ((4 : Int32) * nI y1)) + ((2 : Int32) * v2)) + q5.1), q5.2))))) else (some (((((2 : Int32) + ((2 : Int32) * nI y1)) + v2), τ3)))) = some r → p_cRea_readType τ = some r := by
    intro r q
    unfold p_cRea_readType
    rw [b1, Option.bind_some]
    dsimp only
    rw [p1, if_pos (show nI 21 = 21 from rfl)]
    show ((p_cRea_pass (nI 21) τ1).bind _) = _
    rw [p4, Option.bind_some, c1, Option.bind_some]
    exact q
  have hrf : ∀ r, (if (ρ3.1 106 41) = 0 then (some (((((2 : Int32) + ((2 : Int32) * nI y1)) + w2), ρ3))) else (if (ρ3.1 106 40) < 0 ∨ 1202 ≤ ((ρ3.1 106 40)).toNatClampNeg then none else (if ((ρ3.1 108) ((ρ3.1 106 40)).toNatClampNeg) = (21 : Int32) then ((p_r_baseType (jx_i ρ3 106 40 ((ρ3.1 106 40) + (1 : Int32)))).bind fun q3 => (some ((((((6 : Int32) + ((4 : Int32) * nI y1)) + ((2 : Int32) * w2)) + q3.1), q3.2)))) else (some (((((2 : Int32) + ((2 : Int32) * nI y1)) + w2), ρ3)))))) = some r → p_r_typeText ρ = some r := by
    intro r q
    unfold p_r_typeText
    rw [b2, Option.bind_some]
    dsimp only
    rw [h41, k3, if_neg (by decide), if_neg (nI_in (show a + 1 < 1202 by omega) (by omega)), nI_clamp (by omega), k2, c, if_pos (show nI 21 = 21 from rfl), show nI (a + 1) + (1 : Int32) = nI (a + 1 + 1) from nI_1 _, c2, Option.bind_some]
    exact q
  rcases c3 with ⟨x, c3⟩ | ⟨c3, c4, c5, c6, c7, c8⟩
  · refine ⟨(2 : Int32) + (2 : Int32) * nI y1 + v2, (2 : Int32) + (2 : Int32) * nI y1 + w2, τ3, ρ3, hcl _ ?_, hrf _ ?_, Or.inl ⟨x, c3⟩⟩
    · rw [told_kind c3.1, if_neg (by decide)]
    · rw [if_pos c3.2.1]
  subst c3
  obtain ⟨y2, hy2, hv2⟩ : ∃ y, y < 2 ∧ v2 = nI y := by
    rcases c4 with c4 | c4
    · exact ⟨0, by omega, c4⟩
    · exact ⟨1, by omega, c4⟩
  subst hv2
  have e2 : (2 : Int32) + (2 : Int32) * nI y1 + nI y2 = nI (2 + 2 * y1 + y2) := by rw [show (2 : Int32) = nI 2 from rfl, nI_mul, nI_add, nI_add]
  obtain ⟨kd, k1', k2', k3', k4', k5', k6'⟩ := kind_ne c6
  have h41' := c6.2.2.1.2.2.1
  by_cases d : eK E (a + 1 + 1 + 1) = 21
  rotate_left
  · refine ⟨nI (2 + 2 * y1 + y2), nI (2 + 2 * y1 + y2), τ3, ρ3, hcl _ ?_, hrf _ ?_, Or.inr ⟨rfl, ⟨_, by omega, rfl⟩, _, by omega, c6, KP_trans (KP_trans b7 p6 (L _) (L _) (L _) (L _) (L _)) c7 (L _) (L _) (L _) (L _) (L _), by rw [c8, s_i_ne (by decide), b8]⟩⟩
    · rw [k1', if_neg (fun q => by have := (nI_eq (b := 21) (by omega) (by omega)).mp q; omega), e2]
    · rw [h41', k3', if_neg (by decide), if_neg (nI_in (show a + 1 + 1 + 1 < 1202 by omega) (by omega)), nI_clamp (by omega), k2', if_neg (fun q => by have := (nI_eq (b := 21) (by omega) (by omega)).mp q; omega), e2]
  obtain ⟨q1, q2, q3, q4, q5, q6⟩ := pass_ok c6 21 d (by omega)
  obtain ⟨v3, w3, τ5, ρ5, d1, d2, d3⟩ := base2 (Or.inr q5)
  have hcl3 : p_cRea_readType τ = some ((6 : Int32) + (4 : Int32) * nI y1 + (2 : Int32) * nI y2 + v3, τ5) := hcl _ (by
    rw [q1, if_pos (show nI 21 = 21 from rfl)]
    show ((p_cRea_pass (nI 21) τ3).bind _) = _
    rw [q4, Option.bind_some, d1, Option.bind_some])
  have hrf3 : p_r_typeText ρ = some ((6 : Int32) + (4 : Int32) * nI y1 + (2 : Int32) * nI y2 + w3, ρ5) := hrf _ (by
    rw [h41', k3', if_neg (by decide), if_neg (nI_in (show a + 1 + 1 + 1 < 1202 by omega) (by omega)), nI_clamp (by omega), k2', d, if_pos (show nI 21 = 21 from rfl), show nI (a + 1 + 1 + 1) + (1 : Int32) = nI (a + 1 + 1 + 1 + 1) from nI_1 _, d2, Option.bind_some])
  refine ⟨_, _, τ5, ρ5, hcl3, hrf3, ?_⟩
  rcases d3 with ⟨x, d3⟩ | ⟨d3, d4, d5, d6, d7, d8⟩
  · exact Or.inl ⟨x, d3⟩
  subst d3
  refine Or.inr ⟨rfl, ?_, _, by omega, d6, KP_trans (KP_trans (KP_trans (KP_trans b7 p6 (L _) (L _) (L _) (L _) (L _)) c7 (L _) (L _) (L _) (L _) (L _)) q6 (L _) (L _) (L _) (L _) (L _)) d7 (L _) (L _) (L _) (L _) (L _), by rw [d8, s_i_ne (by decide), c8, s_i_ne (by decide), b8]⟩
  rcases d4 with d4 | d4
  · exact ⟨6 + 4 * y1 + 2 * y2 + 0, by omega, by rw [d4, show (6 : Int32) = nI 6 from rfl, show (4 : Int32) = nI 4 from rfl, show (2 : Int32) = nI 2 from rfl, nI_mul, nI_mul, nI_add, nI_add, nI_add]⟩
  · exact ⟨6 + 4 * y1 + 2 * y2 + 1, by omega, by rw [d4, show (6 : Int32) = nI 6 from rfl, show (4 : Int32) = nI 4 from rfl, show (2 : Int32) = nI 2 from rfl, nI_mul, nI_mul, nI_add, nI_add, nI_add]⟩
