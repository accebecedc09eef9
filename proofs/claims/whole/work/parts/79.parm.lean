/-! READER, 26: one parameter. -/
def ParOK (E : jEn) (f i : Nat) (τ ρ : jx_S) : Prop := τ.1 43 f = nI i ∧ ρ.1 127 f = nI i ∧ ∀ j, j < i → ∃ tk, τ.1 55 (30 * f + j) = nI tk ∧ ρ.1 134 (8 * f + j) = nI tk ∧ tk < eC E ∧ eK E tk = 1 ∧ ρ.1 135 (8 * f + j) = τ.1 57 (30 * f + j)
theorem jx_i_self {σ : jx_S} {k j : Nat} : jx_i σ k j (σ.1 k j) = σ := by
  refine Prod.ext ?_ rfl
  funext a b
  show (if a = k ∧ b = j then σ.1 k j else σ.1 a b) = σ.1 a b
  by_cases h : a = k ∧ b = j
  · rw [if_pos h, h.1, h.2]
  · rw [if_neg h]
theorem shut_type2 {ρ : jx_S} {a : Nat} (h : ρ.1 106 41 = 0) (ha : ρ.1 106 40 = nI a) (h2 : a < 1202) : ∃ w, p_r_typeText ρ = some (w, jx_i ρ 106 40 (ρ.1 106 40 + 0)) := by
  obtain ⟨w, hw⟩ := shut_base h ha h2
  refine ⟨w, ?_⟩
  unfold p_r_typeText
  rw [hw, Option.bind_some]
  dsimp only
  rw [if_pos (by simp (disch := first | assumption | decide | omega) only [h, nI_lit, cT_lt, cF_lt, cT_le, cF_le, cT_eq, cF_eq, nF_le, mF_eq, mG_eq, mT_lt, eq_self, nI_clamp, nI_add, Nat.add_zero, nI_sub, s_i_ne, s_i_eq, s_i_2, s_l_1, s_l_ne, s_l_eq, s_p_ne, s_p_eq, s_p_2, s_q_1, s_q_ne, s_q_eq, u_ne, u_eq, v_ne, v_eq, w_ne, w_eq, jI_at_in, jL_at_in, false_or, or_false, true_or, or_true, true_and, and_true, false_and, and_false, not_true_eq_false, not_false_eq_true, ↓reduceIte, Option.bind_some, Option.map_some])]
theorem told_type {τ : jx_S} (h : τ.1 1 0 ≠ 0) : p_cRea_readType τ = some (0, τ) := by
  unfold p_cRea_readType
  rw [told_base h, Option.bind_some]
  dsimp only
  rw [told_kind h]
  rfl
theorem told_par25 {τ : jx_S} (h : τ.1 1 0 ≠ 0) (x : Int32) : ∃ τ', p_cRea_readParameter_25 x τ = some τ' ∧ τ'.1 1 = τ.1 1 ∧ (τ'.1 29 = τ.1 29 ∧ τ'.1 23 = τ.1 23) := by
  unfold p_cRea_readParameter_25 p_cFun_setType p_cRea_show
  rw [told_local h, Option.bind_some]
  dsimp only
  rw [told_pass h (by decide), Option.bind_some, told_type h, Option.bind_some, Option.bind_some]
  rw [told_pass (τ := jI_put 1200 τ 57 _ _) (by rw [s_p_ne (by decide)]; exact h) (by decide), Option.bind_some, Option.bind_some]
  exact ⟨_, rfl, by rw [s_i_ne (by decide), s_p_ne (by decide), s_p_ne (by decide), s_p_ne (by decide)], by rw [s_i_ne (by decide), s_p_ne (by decide), s_p_ne (by decide), s_p_ne (by decide)], by rw [s_i_ne (by decide), s_p_ne (by decide), s_p_ne (by decide), s_p_ne (by decide)]⟩
theorem shut_par56 {ρ : jx_S} {a : Nat} (h : ρ.1 106 41 = 0) (ha : ρ.1 106 40 = nI a) (h2 : a < 1202) (x1 x2 : Int32) : ∃ ρ', p_r_parameter0_56 x1 x2 ρ = some ρ' ∧ ρ'.1 106 41 = 0 ∧ ρ'.1 106 4 = ρ.1 106 4 ∧ ρ'.1 106 5 = ρ.1 106 5 ∧ ρ'.1 106 45 = ρ.1 106 45 ∧ ρ'.1 106 52 = ρ.1 106 52 ∧ ρ'.1 106 40 = nI a := by
  unfold p_r_parameter0_56
  have e0 : nI a + 0 = nI a := Int32.add_zero _
  rw [shut_declare h, Option.bind_some]
  dsimp only
  rw [shut_expect h, Option.bind_some, ha, e0]
  obtain ⟨w, hw⟩ := shut_type2 (ρ := jx_i ρ 106 40 (nI a)) (a := a) (by simp (disch := first | assumption | decide | omega) only [h, nI_lit, cT_lt, cF_lt, cT_le, cF_le, cT_eq, cF_eq, nF_le, mF_eq, mG_eq, mT_lt, eq_self, nI_clamp, nI_add, Nat.add_zero, nI_sub, s_i_ne, s_i_eq, s_i_2, s_l_1, s_l_ne, s_l_eq, s_p_ne, s_p_eq, s_p_2, s_q_1, s_q_ne, s_q_eq, u_ne, u_eq, v_ne, v_eq, w_ne, w_eq, jI_at_in, jL_at_in, false_or, or_false, true_or, or_true, true_and, and_true, false_and, and_false, not_true_eq_false, not_false_eq_true, ↓reduceIte, Option.bind_some, Option.map_some]) (by simp (disch := first | assumption | decide | omega) only [nI_lit, cT_lt, cF_lt, cT_le, cF_le, cT_eq, cF_eq, nF_le, mF_eq, mG_eq, mT_lt, eq_self, nI_clamp, nI_add, Nat.add_zero, nI_sub, s_i_ne, s_i_eq, s_i_2, s_l_1, s_l_ne, s_l_eq, s_p_ne, s_p_eq, s_p_2, s_q_1, s_q_ne, s_q_eq, u_ne, u_eq, v_ne, v_eq, w_ne, w_eq, jI_at_in, jL_at_in, false_or, or_false, true_or, or_true, true_and, and_true, false_and, and_false, not_true_eq_false, not_false_eq_true, ↓reduceIte, Option.bind_some, Option.map_some]) h2
  rw [hw, Option.bind_some]
  dsimp only
  rw [shut_expect (by simp (disch := first | assumption | decide | omega) only [h, nI_lit, cT_lt, cF_lt, cT_le, cF_le, cT_eq, cF_eq, nF_le, mF_eq, mG_eq, mT_lt, eq_self, nI_clamp, nI_add, Nat.add_zero, nI_sub, s_i_ne, s_i_eq, s_i_2, s_l_1, s_l_ne, s_l_eq, s_p_ne, s_p_eq, s_p_2, s_q_1, s_q_ne, s_q_eq, u_ne, u_eq, v_ne, v_eq, w_ne, w_eq, jI_at_in, jL_at_in, false_or, or_false, true_or, or_true, true_and, and_true, false_and, and_false, not_true_eq_false, not_false_eq_true, ↓reduceIte, Option.bind_some, Option.map_some]), Option.bind_some, if_pos (by simp (disch := first | assumption | decide | omega) only [h, nI_lit, cT_lt, cF_lt, cT_le, cF_le, cT_eq, cF_eq, nF_le, mF_eq, mG_eq, mT_lt, eq_self, nI_clamp, nI_add, Nat.add_zero, nI_sub, s_i_ne, s_i_eq, s_i_2, s_l_1, s_l_ne, s_l_eq, s_p_ne, s_p_eq, s_p_2, s_q_1, s_q_ne, s_q_eq, u_ne, u_eq, v_ne, v_eq, w_ne, w_eq, jI_at_in, jL_at_in, false_or, or_false, true_or, or_true, true_and, and_true, false_and, and_false, not_true_eq_false, not_false_eq_true, ↓reduceIte, Option.bind_some, Option.map_some])]
  refine ⟨_, rfl, ?_, ?_, ?_, ?_, ?_, ?_⟩ <;> simp (disch := first | assumption | decide | omega) only [h, nI_lit, cT_lt, cF_lt, cT_le, cF_le, cT_eq, cF_eq, nF_le, mF_eq, mG_eq, mT_lt, eq_self, nI_clamp, nI_add, Nat.add_zero, nI_sub, s_i_ne, s_i_eq, s_i_2, s_l_1, s_l_ne, s_l_eq, s_p_ne, s_p_eq, s_p_2, s_q_1, s_q_ne, s_q_eq, u_ne, u_eq, v_ne, v_eq, w_ne, w_eq, jI_at_in, jL_at_in, false_or, or_false, true_or, or_true, true_and, and_true, false_and, and_false, not_true_eq_false, not_false_eq_true, ↓reduceIte, Option.bind_some, Option.map_some]
theorem param_step {E : jEn} {f nf a n i : Nat} {sc : List Nat} {G : jGh} {τ ρ : jx_S} (h : PR E f nf a n i sc G 0 0 0 τ ρ) (hsc : sc.length = i) (hPar : ParOK E f i τ ρ) (hk : eK E a = 16) (hi : i ≤ 8) :
    ∃ τ' ρ', p_cRea_readParameter (nI i) τ = some τ' ∧ p_r_parameter0 ρ = some ρ' ∧ ((∃ t s x, FR t s x τ' ρ') ∨ (i < 8 ∧ ∃ a', a < a' ∧ PR E f nf a' n (i + 1) (i :: sc) G 0 0 0 τ' ρ' ∧ ParOK E f (i + 1) τ' ρ' ∧ TK f n τ ρ τ' ρ' ∧ τ'.1 41 = τ.1 41 ∧ τ'.1 49 = τ.1 49 ∧ ρ'.1 126 = ρ.1 126 ∧ ρ'.1 130 = ρ.1 130 ∧ a + 1 < a' ∧ τ'.1 55 (30 * f + i) = nI (a + 1) ∧ ∀ j, j < i → τ'.1 55 (30 * f + j) = τ.1 55 (30 * f + j))) := by
  have hb := PR_bounds h
  have L : ∀ x : Nat, x ≤ x := Nat.le_refl
  obtain ⟨p1, p2, p3, p4, p5, p6⟩ := pass_ok h 16 hk (by omega)
  have hB := h.2.2.1
  have hB5 := p5.2.2.1
  have h38 := hB.2.2.2.2.2.1
  have h41 := hB.2.2.1
  have h40 := hB.2.2.2.1
  have r8 := (hB.1.2 a hb.2.1).1
  have hexp : p_r_expect (nI 16) ρ = some (jx_i ρ 106 40 (nI (a + 1))) := by
    unfold p_r_expect p_r_expect_29
    simp (disch := first | assumption | decide | omega) only [h41, h40, r8, hk, nI_lit, cT_lt, cF_lt, cT_le, cF_le, cT_eq, cF_eq, nF_le, mF_eq, mG_eq, mT_lt, eq_self, nI_clamp, nI_add, Nat.add_zero, nI_sub, s_i_ne, s_i_eq, s_i_2, s_l_1, s_l_ne, s_l_eq, s_p_ne, s_p_eq, s_p_2, s_q_1, s_q_ne, s_q_eq, u_ne, u_eq, v_ne, v_eq, w_ne, w_eq, jI_at_in, jL_at_in, false_or, or_false, true_or, or_true, true_and, and_true, false_and, and_false, not_true_eq_false, not_false_eq_true, ↓reduceIte, Option.bind_some, Option.map_some]
  obtain ⟨kc, k1, k2, k3, k4, k5, k6⟩ := kind_ne p5
  have h127 : (jx_i ρ 106 40 (nI (a + 1))).1 127 f = nI i := by rw [s_i_ne (by decide)]; exact hPar.2.1
  have h41b : (jx_i ρ 106 40 (nI (a + 1))).1 106 41 = 1 := hB5.2.2.1
  by_cases h8 : i = 8 ∧ eK E (a + 1) = 1
  · obtain ⟨s1, s2, s3⟩ := stop_both (nI 4) (by decide) p5
    obtain ⟨τ', t1, t2, t3⟩ := told_par25 s3.1 (nI i)
    obtain ⟨ρ', u1, u2, u3, u4, u5, u6, u7⟩ := shut_par56 s3.2.1 s3.2.2.2.2.2.2.1 (by omega) (nI f) (nI (a + 1))
    refine ⟨τ', ρ', ?_, ?_, Or.inl ⟨0, sc.length, a + 1, by rw [t2]; exact s3.1, u2, by rw [u3, t2]; exact s3.2.2.1, by rw [u4, t2]; exact s3.2.2.2.1, by rw [u5]; exact s3.2.2.2.2.1, by rw [u6]; exact s3.2.2.2.2.2.1, u7, by omega, by rw [t3.1, t3.2]; exact s3.2.2.2.2.2.2.2.2⟩⟩
    · unfold p_cRea_readParameter
      show ((p_cRea_pass (nI 16) τ).bind _) = _
      rw [p4, Option.bind_some, if_neg (by rw [h8.1]; decide), k1, show kc = 1 by omega, if_neg (by decide)]
      show ((p_cRea_tell (nI 4) _).bind _) = _
      rw [s1, Option.bind_some]
      exact t1
    · unfold p_r_parameter0
      show ((p_r_expect (nI 16) ρ).bind _) = _
      rw [hexp, Option.bind_some, h41b, if_neg (by decide), k3, if_neg (nI_in (show a + 1 < 1202 by omega) (by omega)), nI_clamp (show a + 1 < 2 ^ 31 by omega), k2, h8.2, if_neg (by decide), h38, if_neg (nI_in (show f < 40 by omega) (by omega)), nI_clamp (show f < 2 ^ 31 by omega), h127, h8.1, if_neg (by decide)]
      show ((p_r_stop (nI 4) (nI (a + 1)) _).bind _) = _
      rw [s2, Option.bind_some]
      exact u1
  obtain ⟨v, w, τ2, ρ2, d1, d2, d3⟩ := declare2 0 (Or.inl rfl) (Or.inr p5)
  have X2 : (∃ x, FR 0 sc.length x τ2 ρ2) ∨ PR E f nf (a + 2) n (i + 1) sc G 0 0 0 τ2 ρ2 := d3.imp id (fun q => q.2.2.2.2.2.1)
  obtain ⟨τ3, ρ3, e1, e2, e3⟩ := pass2 18 (by omega) (by omega) X2
  have X3 : (∃ x, FR 0 sc.length x τ3 ρ3) ∨ PR E f nf (a + 3) n (i + 1) sc G 0 0 0 τ3 ρ3 := e3.imp id (fun q => q.2.2.1)
  obtain ⟨v4, w4, τ4, ρ4, b1, b2, b3⟩ := type2 X3
  have X4 : ∃ a4, (∃ x, FR 0 sc.length x τ4 ρ4) ∨ PR E f nf a4 n (i + 1) sc G 0 0 0 τ4 ρ4 := by
    rcases b3 with b3 | ⟨_, _, a', _, b6, _⟩
    · exact ⟨0, Or.inl b3⟩
    · exact ⟨a', Or.inr b6⟩
  obtain ⟨a4, X4⟩ := X4
  obtain ⟨τ5, ρ5, c1, c2, c3⟩ := pass2 17 (by omega) (by omega) X4
  have hpc : p_cRea_pass (nI 17) (jI_put 1200 τ4 57 (τ3.1 5 7 * 30 + v) v4) = some (jI_put 1200 τ5 57 (τ3.1 5 7 * 30 + v) v4) := by
    rw [pass_comm, c1]; rfl
  have hcl : ∀ r, p_cRea_show v (jI_put 40 (jI_put 1200 τ5 57 (τ3.1 5 7 * 30 + v) v4) 43 ((jI_put 1200 τ5 57 (τ3.1 5 7 * 30 + v) v4).1 5 7) (nI i + 1)) = some r → p_cRea_readParameter (nI i) τ = some r := by
    intro r q
    have e25 : p_cRea_readParameter_25 (nI i) (jx_i τ 5 6 (nI (a + 1))) = some r := by
      unfold p_cRea_readParameter_25
      rw [d1, Option.bind_some]
      show ((p_cRea_pass (nI 18) τ2).bind _) = _
      rw [e1, Option.bind_some, b1, Option.bind_some]
      unfold p_cFun_setType
      rw [Option.bind_some]
      show ((p_cRea_pass (nI 17) (jI_put 1200 τ4 57 (τ3.1 5 7 * 30 + v) v4)).bind _) = _
      rw [hpc, Option.bind_some]
      show ((p_cRea_show v _).bind _) = _
      rw [q, Option.bind_some]
    unfold p_cRea_readParameter
    show ((p_cRea_pass (nI 16) τ).bind _) = _
    rw [p4, Option.bind_some]
    by_cases h8i : i = 8
    · rw [if_neg (by rw [h8i]; decide), k1, if_pos (fun q => by have := (nI_eq (b := 1) (by omega) (by omega)).mp q; omega)]
      exact e25
    · rw [if_pos (show ¬ nI i = (8 : Int32) from fun q => h8i ((nI_eq (b := 8) (by omega) (by omega)).mp q))]
      exact e25
  have hrf : ∀ r, (if (ρ5.1 106 41) = 0 then (some (ρ5)) else (if (nI f) < 0 ∨ 40 ≤ ((nI f)).toNatClampNeg then none else (if (((8 : Int32) * (nI f)) + ((ρ5.1 127) ((nI f)).toNatClampNeg)) < 0 ∨ 320 ≤ ((((8 : Int32) * (nI f)) + ((ρ5.1 127) ((nI f)).toNatClampNeg))).toNatClampNeg then none else (if (nI f) < 0 ∨ 40 ≤ ((nI f)).toNatClampNeg then none else (if (((8 : Int32) * (nI f)) + ((ρ5.1 127) ((nI f)).toNatClampNeg)) < 0 ∨ 320 ≤ ((((8 : Int32) * (nI f)) + ((ρ5.1 127) ((nI f)).toNatClampNeg))).toNatClampNeg then none else (if (((30 : Int32) * (nI f)) + w) < 0 ∨ 1200 ≤ ((((30 : Int32) * (nI f)) + w)).toNatClampNeg then none else ((p_r_enter w (nI (a + 1)) (jx_i (jx_i (jx_i ρ5 134 ((((8 : Int32) * (nI f)) + ((ρ5.1 127) ((nI f)).toNatClampNeg))).toNatClampNeg (nI (a + 1))) 135 ((((8 : Int32) * (nI f)) + ((ρ5.1 127) ((nI f)).toNatClampNeg))).toNatClampNeg w4) 137 ((((30 : Int32) * (nI f)) + w)).toNatClampNeg w4)).bind fun q6 => (if (nI f) < 0 ∨ 40 ≤ ((nI f)).toNatClampNeg then none else (if (nI f) < 0 ∨ 40 ≤ ((nI f)).toNatClampNeg then none else (some ((jx_i q6 127 ((nI f)).toNatClampNeg (((q6.1 127) ((nI f)).toNatClampNeg) + (1 : Int32)))))))))))))) = some r → p_r_parameter0 ρ = some r := by
    intro r q
    have e56 : p_r_parameter0_56 (nI f) (nI (a + 1)) (jx_i ρ 106 40 (nI (a + 1))) = some r := by
      unfold p_r_parameter0_56
      rw [d2, Option.bind_some]
      show ((p_r_expect (nI 18) ρ2).bind _) = _
      rw [e2, Option.bind_some, b2, Option.bind_some]
      show ((p_r_expect (nI 17) ρ4).bind _) = _
      rw [c2, Option.bind_some]
      exact q
    unfold p_r_parameter0
    show ((p_r_expect (nI 16) ρ).bind _) = _
    rw [hexp, Option.bind_some, h41b, if_neg (by decide), k3, if_neg (nI_in (show a + 1 < 1202 by omega) (by omega)), nI_clamp (show a + 1 < 2 ^ 31 by omega), k2, h38, if_neg (nI_in (show f < 40 by omega) (by omega)), nI_clamp (show f < 2 ^ 31 by omega), h127]
    by_cases h1 : eK E (a + 1) = 1
    · rw [if_neg (by rw [h1]; decide), if_pos (show ¬ nI i = (8 : Int32) from fun q => h8 ⟨(nI_eq (b := 8) (by omega) (by omega)).mp q, h1⟩)]
      exact e56
    · rw [if_pos (show ¬ nI (eK E (a + 1)) = (1 : Int32) from fun q => h1 ((nI_eq (b := 1) (by omega) (by omega)).mp q))]
      exact e56
  rcases c3 with ⟨x, c3⟩ | ⟨q1, q2, q3, q4, q5⟩
  · refine ⟨_, ρ5, hcl _ rfl, hrf ρ5 (by rw [if_pos c3.2.1]), Or.inl ⟨_, _, _, FR_c c3 ?_ ?_⟩⟩
    · rw [s_i_ne (by decide), s_p_ne (by decide), s_p_ne (by decide), s_p_ne (by decide)]
    · exact ⟨by rw [s_i_ne (by decide), s_p_ne (by decide), s_p_ne (by decide), s_p_ne (by decide)], by rw [s_i_ne (by decide), s_p_ne (by decide), s_p_ne (by decide), s_p_ne (by decide)]⟩
  · rcases b3 with ⟨x, b3⟩ | ⟨b3, b4, a', b5, b6, b7, b8⟩
    · exfalso
      have n2 := b3.1
      rw [told_pass n2 (by decide)] at c1
      cases c1
      exact n2 q3.2.1.2.1
    rcases e3 with ⟨x, e3⟩ | ⟨e3, e4, e5, e6, e7⟩
    · exfalso
      have n2 := e3.1
      rw [told_type n2] at b1
      cases b1
      exact n2 b6.2.1.2.1
    rcases d3 with ⟨x, d3⟩ | ⟨d3, d4, d5, d6, d7, d8, d9, d10, d11⟩
    · exfalso
      have n2 := d3.1
      rw [told_pass n2 (by decide)] at e1
      cases e1
      exact n2 e5.2.1.2.1
    subst d3 d4 b3
    have ha4 : a4 = a' := by
      rcases X4 with ⟨x, X4⟩ | X4
      · exact absurd b6.2.1.2.1 X4.1
      · have := X4.2.1.2.2.1.symm.trans b6.2.1.2.2.1
        have hb4 := PR_bounds X4
        have hb6 := PR_bounds b6
        exact (nI_eq (by omega) (by omega)).mp this
    subst ha4
    have hi8 : i < 8 := by
      rcases Nat.lt_or_ge i 8 with q | q
      · exact q
      · exact absurd ⟨by omega, d5⟩ h8
    have h57 : τ3.1 5 7 = nI f := e5.2.1.2.2.2.2.1
    have h57b : (jI_put 1200 τ5 57 (nI (f * 30 + i)) v4).1 5 7 = nI f := by rw [s_p_ne (by decide)]; exact q3.2.1.2.2.2.2.1
    have e57 : nI f * (30 : Int32) + nI i = nI (f * 30 + i) := by rw [show (30 : Int32) = nI 30 from rfl, nI_mul, nI_add]
    have e30 : (30 : Int32) * nI f + nI i = nI (30 * f + i) := by rw [show (30 : Int32) = nI 30 from rfl, nI_mul, nI_add]
    have e8 : (8 : Int32) * nI f + nI i = nI (8 * f + i) := by rw [show (8 : Int32) = nI 8 from rfl, nI_mul, nI_add]
    have Kall : KP f n i sc.length 0 0 τ ρ τ5 ρ5 := KP_trans (KP_trans (KP_trans (KP_trans p6 d9 (L _) (L _) (L _) (L _) (L _)) e6 (L _) (Nat.le_succ i) (L _) (L _) (L _)) b7 (L _) (Nat.le_succ i) (L _) (L _) (L _)) q4 (L _) (Nat.le_succ i) (L _) (L _) (L _)
    have g127 : ρ5.1 127 f = nI i := by rw [Kall.2.2.2.2.2.2.2.2.2.2 127 (by decide)]; exact hPar.2.1
    obtain ⟨t1, t2, t3⟩ := PR_type i v4 (ρ5.1 130 f) b4 q3 (by omega) i (L i) (fun k k1 k2 => CsT_KP (p5.2.2.2.2.2.2 k k1 k2).2.2 (KP_trans (KP_trans (KP_trans d9 e6 (Nat.le_refl _) (Nat.le_succ i) (Nat.le_refl _) (Nat.le_refl _) (Nat.le_refl _)) b7 (Nat.le_refl _) (Nat.le_succ i) (Nat.le_refl _) (Nat.le_refl _) (Nat.le_refl _)) q4 (Nat.le_refl _) (Nat.le_succ i) (Nat.le_refl _) (Nat.le_refl _) (Nat.le_refl _)) k2)
    have hself : jx_i (jx_i ρ5 137 (30 * f + i) v4) 130 f (ρ5.1 130 f) = jx_i ρ5 137 (30 * f + i) v4 := by
      have := jx_i_self (σ := jx_i ρ5 137 (30 * f + i) v4) (k := 130) (j := f)
      rw [s_i_ne (by decide)] at this
      exact this
    rw [hself] at t2
    have hPt : PR E f nf (a4 + 1) n (i + 1) sc G 0 0 0 (jI_put 40 (jI_put 1200 τ5 57 (nI (f * 30 + i)) v4) 43 (nI f) (nI (i + 1))) (jx_i (jx_i (jx_i ρ5 134 (8 * f + i) (nI (a + 1))) 135 (8 * f + i) v4) 137 (30 * f + i) v4) := by
      refine PR_row t2 (same_p same_rfl (by decide)) (fun r hr => ?_) rfl
      by_cases h137 : r = 137
      · subst h137
        rw [s_i_eq, s_i_eq, s_i_ne (by decide), s_i_ne (by decide)]
      · rw [s_i_ne h137, s_i_ne h137, s_i_ne (fun q => by subst q; exact absurd hr (by decide)), s_i_ne (fun q => by subst q; exact absurd hr (by decide))]
    have h55 : (jI_put 40 (jI_put 1200 τ5 57 (nI (f * 30 + i)) v4) 43 (nI f) (nI (i + 1))).1 55 (30 * f + i) = nI (a + 1) := by
      rw [s_p_ne (by decide), s_p_ne (by decide), q4.2.2.2.2.2.2.1 55 (by decide) _ (by omega), b7.2.2.2.2.2.2.1 55 (by decide) _ (by omega), e6.2.2.2.2.2.2.1 55 (by decide) _ (by omega)]
      exact d11.1
    obtain ⟨s1, s2, s3, s4, s5⟩ := PR_show i (a + 1) hPt (by omega) (by omega) h55 (by omega) d5
    rw [h57, e57, h57b, show nI i + (1 : Int32) = nI (i + 1) from nI_1 i] at hcl
    have hP' := PR_row s3 same_rfl (ρ' := jx_i (ent (jx_i (jx_i (jx_i ρ5 134 (8 * f + i) (nI (a + 1))) 135 (8 * f + i) v4) 137 (30 * f + i) v4) sc.length i (a + 1)) 127 f (nI (i + 1))) (same_i same_rfl (by decide)) rfl
    have q127 : (ent (jx_i (jx_i (jx_i ρ5 134 (8 * f + i) (nI (a + 1))) 135 (8 * f + i) v4) 137 (30 * f + i) v4) sc.length i (a + 1)).1 127 f = nI i := by
      unfold ent
      rw [s_i_ne (by decide), s_i_ne (by decide), s_i_ne (by decide), s_i_ne (by decide), s_i_ne (by decide), s_i_ne (by decide)]
      exact g127
    have q41 := q3.2.2.1.2.2.1
    refine ⟨_, _, hcl _ s1, hrf _ ?_, Or.inr ⟨hi8, a4 + 1, by omega, hP', ⟨?_, ?_, fun j hj => ?_⟩, ?_, ?_, ?_, ?_, ?_, by omega, ?_, fun j hj => ?_⟩⟩
    · rw [q41, if_neg (by decide), if_neg (nI_in (show f < 40 by omega) (by omega)), nI_clamp (show f < 2 ^ 31 by omega), g127, e8, e30, if_neg (nI_in (show 8 * f + i < 320 by omega) (by omega)), if_neg (nI_in (show 8 * f + i < 320 by omega) (by omega)), if_neg (nI_in (show 30 * f + i < 1200 by omega) (by omega)), nI_clamp (show 8 * f + i < 2 ^ 31 by omega), nI_clamp (show 30 * f + i < 2 ^ 31 by omega), s2, Option.bind_some]
      have hni : ¬ (nI f < 0 ∨ 40 ≤ f) := fun q => by
        rcases q with q | q
        · exact nI_pos (by omega) q
        · omega
      rw [if_neg hni, if_neg hni, if_neg hni, q127, show nI i + (1 : Int32) = nI (i + 1) from nI_1 i]
    · unfold shw; simp (disch := first | assumption | decide | omega) only [nI_lit, cT_lt, cF_lt, cT_le, cF_le, cT_eq, cF_eq, nF_le, mF_eq, mG_eq, mT_lt, eq_self, nI_clamp, nI_add, Nat.add_zero, nI_sub, s_i_ne, s_i_eq, s_i_2, s_l_1, s_l_ne, s_l_eq, s_p_ne, s_p_eq, s_p_2, s_q_1, s_q_ne, s_q_eq, u_ne, u_eq, v_ne, v_eq, w_ne, w_eq, jI_at_in, jL_at_in, false_or, or_false, true_or, or_true, true_and, and_true, false_and, and_false, not_true_eq_false, not_false_eq_true, ↓reduceIte, Option.bind_some, Option.map_some]
    · simp (disch := first | assumption | decide | omega) only [nI_lit, cT_lt, cF_lt, cT_le, cF_le, cT_eq, cF_eq, nF_le, mF_eq, mG_eq, mT_lt, eq_self, nI_clamp, nI_add, Nat.add_zero, nI_sub, s_i_ne, s_i_eq, s_i_2, s_l_1, s_l_ne, s_l_eq, s_p_ne, s_p_eq, s_p_2, s_q_1, s_q_ne, s_q_eq, u_ne, u_eq, v_ne, v_eq, w_ne, w_eq, jI_at_in, jL_at_in, false_or, or_false, true_or, or_true, true_and, and_true, false_and, and_false, not_true_eq_false, not_false_eq_true, ↓reduceIte, Option.bind_some, Option.map_some]
    · by_cases hji : j = i
      · subst hji
        refine ⟨a + 1, ?_, ?_, by omega, d5, ?_⟩
        · unfold shw; rw [s_i_ne (by decide), s_p_ne (by decide)]; exact h55
        · unfold ent; simp (disch := first | assumption | decide | omega) only [nI_lit, cT_lt, cF_lt, cT_le, cF_le, cT_eq, cF_eq, nF_le, mF_eq, mG_eq, mT_lt, eq_self, nI_clamp, nI_add, Nat.add_zero, nI_sub, s_i_ne, s_i_eq, s_i_2, s_l_1, s_l_ne, s_l_eq, s_p_ne, s_p_eq, s_p_2, s_q_1, s_q_ne, s_q_eq, u_ne, u_eq, v_ne, v_eq, w_ne, w_eq, jI_at_in, jL_at_in, false_or, or_false, true_or, or_true, true_and, and_true, false_and, and_false, not_true_eq_false, not_false_eq_true, ↓reduceIte, Option.bind_some, Option.map_some]
        · unfold ent shw; simp (disch := first | assumption | decide | omega) only [nI_lit, cT_lt, cF_lt, cT_le, cF_le, cT_eq, cF_eq, nF_le, mF_eq, mG_eq, mT_lt, eq_self, nI_clamp, nI_add, Nat.add_zero, nI_sub, s_i_ne, s_i_eq, s_i_2, s_l_1, s_l_ne, s_l_eq, s_p_ne, s_p_eq, s_p_2, s_q_1, s_q_ne, s_q_eq, u_ne, u_eq, v_ne, v_eq, w_ne, w_eq, jI_at_in, jL_at_in, false_or, or_false, true_or, or_true, true_and, and_true, false_and, and_false, not_true_eq_false, not_false_eq_true, ↓reduceIte, Option.bind_some, Option.map_some]
      · obtain ⟨tk, w1, w2, w3, w4', w5⟩ := hPar.2.2 j (by omega)
        refine ⟨tk, ?_, ?_, w3, w4', ?_⟩
        · unfold shw; simp (disch := first | assumption | decide | omega) only [nI_lit, cT_lt, cF_lt, cT_le, cF_le, cT_eq, cF_eq, nF_le, mF_eq, mG_eq, mT_lt, eq_self, nI_clamp, nI_add, Nat.add_zero, nI_sub, s_i_ne, s_i_eq, s_i_2, s_l_1, s_l_ne, s_l_eq, s_p_ne, s_p_eq, s_p_2, s_q_1, s_q_ne, s_q_eq, u_ne, u_eq, v_ne, v_eq, w_ne, w_eq, jI_at_in, jL_at_in, false_or, or_false, true_or, or_true, true_and, and_true, false_and, and_false, not_true_eq_false, not_false_eq_true, ↓reduceIte, Option.bind_some, Option.map_some]; rw [Kall.2.2.2.2.2.2.1 55 (by decide) _ (by omega)]; exact w1
        · unfold ent; simp (disch := first | assumption | decide | omega) only [nI_lit, cT_lt, cF_lt, cT_le, cF_le, cT_eq, cF_eq, nF_le, mF_eq, mG_eq, mT_lt, eq_self, nI_clamp, nI_add, Nat.add_zero, nI_sub, s_i_ne, s_i_eq, s_i_2, s_l_1, s_l_ne, s_l_eq, s_p_ne, s_p_eq, s_p_2, s_q_1, s_q_ne, s_q_eq, u_ne, u_eq, v_ne, v_eq, w_ne, w_eq, jI_at_in, jL_at_in, false_or, or_false, true_or, or_true, true_and, and_true, false_and, and_false, not_true_eq_false, not_false_eq_true, ↓reduceIte, Option.bind_some, Option.map_some]; rw [Kall.2.2.2.2.2.2.2.2.2.2 134 (by decide)]; exact w2
        · unfold ent shw; simp (disch := first | assumption | decide | omega) only [nI_lit, cT_lt, cF_lt, cT_le, cF_le, cT_eq, cF_eq, nF_le, mF_eq, mG_eq, mT_lt, eq_self, nI_clamp, nI_add, Nat.add_zero, nI_sub, s_i_ne, s_i_eq, s_i_2, s_l_1, s_l_ne, s_l_eq, s_p_ne, s_p_eq, s_p_2, s_q_1, s_q_ne, s_q_eq, u_ne, u_eq, v_ne, v_eq, w_ne, w_eq, jI_at_in, jL_at_in, false_or, or_false, true_or, or_true, true_and, and_true, false_and, and_false, not_true_eq_false, not_false_eq_true, ↓reduceIte, Option.bind_some, Option.map_some]; rw [Kall.2.2.2.2.2.2.2.2.2.2 135 (by decide), Kall.2.2.2.2.2.2.1 57 (by decide) _ (by omega)]; exact w5
    · have T1 := TK_KP Kall
      have T2 := TK_c (m := 40) (k := 43) (v := nI (i + 1)) (show f < 40 by omega) (by omega) (TK_c (m := 1200) (k := 57) (v := v4) (show f * 30 + i < 1200 by omega) (by omega) T1 (Or.inr ⟨by decide, by omega⟩)) (Or.inl ⟨by decide, rfl⟩)
      have T3 := TK_i (k := 137) (j := 30 * f + i) (v := v4) (TK_i (k := 135) (j := 8 * f + i) (v := v4) (TK_i (k := 134) (j := 8 * f + i) (v := nI (a + 1)) T2 (Or.inr (Or.inr (Or.inl ⟨Or.inl rfl, by omega⟩)))) (Or.inr (Or.inr (Or.inl ⟨Or.inr rfl, by omega⟩)))) (Or.inr (Or.inl ⟨rfl, by omega⟩))
      exact TK_i (TK_trans T3 (TK_KP s4) (L _)) (Or.inl ⟨by decide, rfl⟩)
    · unfold shw; rw [s_i_ne (by decide), s_p_ne (by decide), s_p_ne (by decide), s_p_ne (by decide), Kall.2.2.2.2.2.2.2.2.2.1 41 (by decide)]
    · unfold shw; rw [s_i_ne (by decide), s_p_ne (by decide), s_p_ne (by decide), s_p_ne (by decide), Kall.2.2.2.2.2.2.2.2.2.1 49 (by decide)]
    · rw [s_i_ne (by decide)]; unfold ent; rw [s_i_ne (by decide), s_i_ne (by decide), s_i_ne (by decide), s_i_ne (by decide), s_i_ne (by decide), s_i_ne (by decide), Kall.2.2.2.2.2.2.2.2.2.2 126 (by decide)]
    · rw [s_i_ne (by decide), s5, s_i_ne (by decide), s_i_ne (by decide), s_i_ne (by decide), q5, b8, e7, d10, s_i_ne (by decide)]
    · unfold shw; rw [s_i_ne (by decide), s_p_ne (by decide)]; exact h55
    · unfold shw; rw [s_i_ne (by decide), s_p_ne (by decide), s_p_ne (by decide), s_p_ne (by decide), Kall.2.2.2.2.2.2.1 55 (by decide) _ (by omega)]
