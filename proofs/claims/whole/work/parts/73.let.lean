/-! READER, 20: let. -/
theorem jI_put_comm {τ : jx_S} {n k j : Nat} {i v w : Int32} {a : Nat} (h : k ≠ a) : jx_i (jI_put n τ a i v) k j w = jI_put n (jx_i τ k j w) a i v := by
  refine Prod.ext ?_ rfl
  funext x y
  show (if x = k ∧ y = j then w else (if x = a then jI_up n (τ.1 a) i v else τ.1 x) y) = (if x = a then jI_up n ((jx_i τ k j w).1 a) i v else (jx_i τ k j w).1 x) y
  rw [s_i_ne (fun q => h q.symm)]
  by_cases hx : x = a
  · subst hx
    rw [if_neg (fun q => h q.1.symm), if_pos rfl, if_pos rfl]
  · rw [if_neg hx, if_neg hx]
    rfl
theorem pass_comm (x : Int32) (τ : jx_S) (n : Nat) (i v : Int32) : p_cRea_pass x (jI_put n τ 57 i v) = (p_cRea_pass x τ).map (fun τ' => jI_put n τ' 57 i v) := by
  have e1 : v_cRea_kind (jI_put n τ 57 i v) = v_cRea_kind τ := rfl
  have e2 : ∀ y, p_cRea_tell y (jI_put n τ 57 i v) = (p_cRea_tell y τ).map (fun τ' => jI_put n τ' 57 i v) := by
    intro y
    unfold p_cRea_tell p_cFau_tell
    rw [s_p_ne (by decide), s_p_ne (by decide), s_p_ne (by decide), jI_put_comm (by decide), jI_put_comm (by decide)]
    by_cases h : τ.1 1 0 = 0
    · rw [if_neg (by simp [h]), if_neg (by simp [h])]; rfl
    · rw [if_pos h, if_pos h]; rfl
  unfold p_cRea_pass
  rw [e1, e2, jI_put_comm (by decide), s_p_ne (by decide)]
  by_cases h1 : v_cRea_kind τ = x
  · rw [if_pos h1, if_pos h1]
    by_cases h2 : x = 0
    · rw [if_pos h2, if_pos h2]; rfl
    · rw [if_neg h2, if_neg h2]; rfl
  · rw [if_neg h1, if_neg h1]
    cases p_cRea_tell 2 τ <;> rfl
theorem let_head {E : jEn} {f nf a n l : Nat} {sc : List Nat} {G : jGh} {t dn dep : Nat} {τ ρ : jx_S} (hP : PR E f nf a n l sc G t dn dep τ ρ) (hdep : dep ≤ 29) (ht : t + 2 < 4000) (hk : eK E a = 5) :
    ∃ v τ2 τ3 v4 τ4 τ6 ρ6, p_cRea_readLocal 0 (jx_i τ 5 6 (nI (a + 1))) = some (v, τ2) ∧ p_cRea_pass (nI 18) τ2 = some τ3 ∧ p_cRea_readBase τ3 = some (v4, τ4) ∧ p_cRea_pass (nI 19) (jI_put 1200 τ4 57 (τ3.1 5 7 * 30 + v) v4) = some τ6 ∧ p_r_expression ρ = some ρ6 ∧ ((∃ t' s x, FR t' s x τ6 ρ6) ∨ (v = nI l ∧ l < 30 ∧ a + 4 < eC E ∧ eK E (a + 1) = 1 ∧ PR E f nf (a + 5) n (l + 1) sc G (t + 2) dn (dep + 1) τ6 ρ6 ∧ KP f n l sc.length t dn τ ρ τ6 ρ6 ∧ ρ6.1 130 f = ρ.1 130 f + 1 ∧ ρ6.1 138 t = nI 2 ∧ ρ6.1 139 t = nI a ∧ ρ6.1 140 t = nI (l + 100 * (a + 1)) ∧ ρ6.1 138 (t + 1) = nI 1 ∧ τ6.1 55 (30 * f + l) = nI (a + 1) ∧ LtY f l τ6)) := by
  have hb := PR_bounds hP
  obtain ⟨hPd, hKd⟩ := PR_dep (dep + 1) hP
  obtain ⟨p1, p2, p3, p4, p5, p6⟩ := pass_ok hPd 5 hk (by omega)
  obtain ⟨v, w, τ2, ρ2, d1, d2, d3⟩ := declare2 0 (Or.inl rfl) (Or.inr p5)
  have X2 : (∃ x, FR t sc.length x τ2 ρ2) ∨ PR E f nf (a + 2) n (l + 1) sc G t dn (dep + 1) τ2 ρ2 := d3.imp id (fun q => q.2.2.2.2.2.1)
  obtain ⟨τ3, ρ3, e1, e2, e3⟩ := pass2 18 (by omega) (by omega) X2
  have X3 : (∃ x, FR t sc.length x τ3 ρ3) ∨ PR E f nf (a + 3) n (l + 1) sc G t dn (dep + 1) τ3 ρ3 := e3.imp id (fun q => q.2.2.1)
  obtain ⟨v4, w4, τ4, ρ4, b1, b2, b3⟩ := base2 X3
  have X4 : (∃ x, FR t sc.length x τ4 ρ4) ∨ PR E f nf (a + 4) n (l + 1) sc G t dn (dep + 1) τ4 ρ4 := b3.imp id (fun q => q.2.2.2.1)
  obtain ⟨τ5, ρ5, c1, c2, c3⟩ := pass2 19 (by omega) (by omega) X4
  have hB := hP.2.2.1
  have r8 := (hB.1.2 a hb.2.1).1
  have h40 := hB.2.2.2.1
  have h48 := hB.2.2.2.2.2.2.2.2.2.2
  have hex : ∀ ρ6, (if (ρ5.1 106 41) = 0 then (p_r_expression_122 (nI a) (nI (a + 1)) w ρ5) else (if (((30 : Int32) * (ρ5.1 106 38)) + w) < 0 ∨ 1200 ≤ ((((30 : Int32) * (ρ5.1 106 38)) + w)).toNatClampNeg then none else (if (ρ5.1 106 38) < 0 ∨ 40 ≤ ((ρ5.1 106 38)).toNatClampNeg then none else (if (ρ5.1 106 38) < 0 ∨ 40 ≤ ((ρ5.1 106 38)).toNatClampNeg then none else (p_r_expression_122 (nI a) (nI (a + 1)) w (jx_i (jx_i ρ5 137 ((((30 : Int32) * (ρ5.1 106 38)) + w)).toNatClampNeg w4) 130 ((ρ5.1 106 38)).toNatClampNeg (((ρ5.1 130) ((ρ5.1 106 38)).toNatClampNeg) + (1 : Int32)))))))) = some ρ6 → p_r_expression ρ = some ρ6 := by
    intro ρ6 q
    rw [← q]
    unfold p_r_expression
    rw [h48, h40, show nI dep + (1 : Int32) = nI (dep + 1) from nI_1 dep, show nI a + (1 : Int32) = nI (a + 1) from nI_1 a, if_pos (show nI (dep + 1) ≤ 30 from (nI_le (by omega) (by omega) : nI (dep + 1) ≤ nI 30)), if_neg (nI_in (show a < 1202 by omega) (by omega)), nI_clamp (show a < 2 ^ 31 by omega), r8, hk, if_neg (by decide)]
    rw [show p_r_declare (0 : Int32) (jx_i (jx_i ρ 106 48 (nI (dep + 1))) 106 40 (nI (a + 1))) = some (w, ρ2) from d2, Option.bind_some]
    show ((p_r_expect (nI 18) ρ2).bind _) = _
    rw [e2, Option.bind_some, b2, Option.bind_some]
    show ((p_r_expect (nI 19) ρ4).bind _) = _
    rw [c2, Option.bind_some]
  have hpc : p_cRea_pass (nI 19) (jI_put 1200 τ4 57 (τ3.1 5 7 * 30 + v) v4) = some (jI_put 1200 τ5 57 (τ3.1 5 7 * 30 + v) v4) := by
    rw [pass_comm, c1]; rfl
  rcases c3 with ⟨x, c3⟩ | ⟨q1, q2, q3, q4, q5⟩
  · obtain ⟨w1, w2⟩ := FR_ltr (nI 2) (nI a) (w + (100 : Int32) * nI (a + 1)) c3 (by omega)
    obtain ⟨w3, w5⟩ := FR_ltr (nI 1) (nI 0) (nI 0) w2 (by omega)
    refine ⟨v, τ2, τ3, v4, τ4, _, _, d1, e1, b1, hpc, hex _ ?_, Or.inl ⟨_, _, _, FR_c w5 (s_p_ne (by decide)) ⟨by rw [s_p_ne (by decide)], by rw [s_p_ne (by decide)]⟩⟩⟩
    rw [if_pos c3.2.1]
    unfold p_r_expression_122
    show ((p_r_later (nI 2) (nI a) _ ρ5).bind _) = _
    rw [w1, Option.bind_some]
    show ((p_r_later (nI 1) (nI 0) (nI 0) _).bind _) = _
    rw [w3, Option.bind_some]
  · rcases d3 with ⟨x, d3⟩ | ⟨d3, d4, d5, d6, d7, d8, d9, d10, d11⟩
    · exfalso
      have n2 := d3.1
      rw [told_pass n2 (by decide)] at e1
      cases e1
      rw [told_base n2] at b1
      cases b1
      rw [told_pass n2 (by decide)] at c1
      cases c1
      exact n2 q3.2.1.2.1
    rcases e3 with ⟨x, e3⟩ | ⟨e3, e4, e5, e6, e7⟩
    · exfalso
      have n2 := e3.1
      rw [told_base n2] at b1
      cases b1
      rw [told_pass n2 (by decide)] at c1
      cases c1
      exact n2 q3.2.1.2.1
    rcases b3 with ⟨x, b3⟩ | ⟨b3, b4, b5, b6, b7, b8⟩
    · exfalso
      have n2 := b3.1
      rw [told_pass n2 (by decide)] at c1
      cases c1
      exact n2 q3.2.1.2.1
    subst d3 d4 b3
    have h57 : τ3.1 5 7 = nI f := e5.2.1.2.2.2.2.1
    have h38 := q3.2.2.1.2.2.2.2.2.1
    have h41 := q3.2.2.1.2.2.1
    obtain ⟨t1, t2, t3⟩ := PR_type l v4 (ρ5.1 130 f + 1) (by rcases b4 with b4 | b4; exact ⟨0, by omega, b4⟩; exact ⟨1, by omega, b4⟩) q3 (by omega) l (Nat.le_refl l) (fun k k1 k2 => CsT_KP (p5.2.2.2.2.2.2 k k1 k2).2.2 (KP_trans (KP_trans (KP_trans d9 e6 (Nat.le_refl _) (Nat.le_succ l) (Nat.le_refl _) (Nat.le_refl _) (Nat.le_refl _)) b7 (Nat.le_refl _) (Nat.le_succ l) (Nat.le_refl _) (Nat.le_refl _) (Nat.le_refl _)) q4 (Nat.le_refl _) (Nat.le_succ l) (Nat.le_refl _) (Nat.le_refl _) (Nat.le_refl _)) k2)
    obtain ⟨l1, l2, l3, l4, l5, l6, l7⟩ := PR_ltr (nI 2) (nI a) (nI (l + 100 * (a + 1))) t2 (by omega)
    obtain ⟨m1, m2, m3, m4, m5, m6, m7⟩ := PR_ltr (nI 1) (nI 0) (nI 0) l2 (by omega)
    have e57 : nI f * (30 : Int32) + nI l = nI (f * 30 + l) := by rw [show (30 : Int32) = nI 30 from rfl, nI_mul, nI_add]
    rw [h57, e57] at hpc
    refine ⟨nI l, τ2, τ3, v4, τ4, _, _, d1, e1, b1, by rw [h57, e57]; exact hpc, hex _ ?_, Or.inr ⟨rfl, d7, by omega, d5, m2, ?_, ?_, ?_, ?_, ?_, m5, ?_, ?_⟩⟩
    · rw [if_neg (by rw [h41]; decide), h38]
      unfold p_r_expression_122
      have e100 : nI l + (100 : Int32) * nI (a + 1) = nI (l + 100 * (a + 1)) := by rw [show (100 : Int32) = nI 100 from rfl, nI_mul, nI_add]
      have e30 : (30 : Int32) * nI f + nI l = nI (30 * f + l) := by rw [show (30 : Int32) = nI 30 from rfl, nI_mul, nI_add]
      rw [e100, e30, if_neg (nI_in (show 30 * f + l < 1200 by omega) (by omega)), if_neg (nI_in (show f < 40 by omega) (by omega)), if_neg (nI_in (show f < 40 by omega) (by omega)), nI_clamp (show 30 * f + l < 2 ^ 31 by omega), nI_clamp (show f < 2 ^ 31 by omega)]
      show ((p_r_later (nI 2) (nI a) _ _).bind _) = _
      rw [l1, Option.bind_some]
      show ((p_r_later (nI 1) (nI 0) (nI 0) _).bind _) = _
      rw [m1, Option.bind_some]
    · have L : ∀ x : Nat, x ≤ x := Nat.le_refl
      exact KP_trans (KP_trans (KP_trans (KP_trans (KP_trans (KP_trans (KP_trans (KP_trans (hKd n l sc.length t dn) p6 (L _) (L _) (L _) (L _) (L _)) d9 (L _) (L _) (L _) (L _) (L _)) e6 (L _) (Nat.le_succ l) (L _) (L _) (L _)) b7 (L _) (Nat.le_succ l) (L _) (L _) (L _)) q4 (L _) (Nat.le_succ l) (L _) (L _) (L _)) t3 (L _) (L _) (L _) (L _) (L _)) l3 (L _) (Nat.le_succ l) (L _) (L _) (L _)) m3 (L _) (Nat.le_succ l) (L _) (Nat.le_succ t) (L _)
    · rw [m4, l4, s_i_eq, u_eq rfl, q5, b8, e7, d10, s_i_ne (by decide), s_i_ne (by decide)]
    · rw [m3.2.2.2.1 138 (by decide) t (by omega)]; exact l5
    · rw [m3.2.2.2.1 139 (by decide) t (by omega)]; exact l6
    · rw [m3.2.2.2.1 140 (by decide) t (by omega)]; exact l7
    · rw [s_p_ne (by decide), q4.2.2.2.2.2.2.1 55 (by decide) _ (by omega), b7.2.2.2.2.2.2.1 55 (by decide) _ (by omega), e6.2.2.2.2.2.2.1 55 (by decide) _ (by omega)]
      exact d11.1
    · rcases b4 with b4 | b4
      · refine ⟨0, by omega, ?_⟩
        rw [s_p_eq, jI_up_in (by omega) (by omega), u_eq (by omega)]; exact b4
      · refine ⟨1, by omega, ?_⟩
        rw [s_p_eq, jI_up_in (by omega) (by omega), u_eq (by omega)]; exact b4
