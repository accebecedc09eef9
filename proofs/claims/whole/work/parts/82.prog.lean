/-! READER, 29: functions. -/
def TkB (f ta i a : Nat) (τ : jx_S) : Prop := ∀ j, j < i → ∃ tk, τ.1 55 (30 * f + j) = nI tk ∧ ta < tk ∧ tk < a ∧ ∀ j', j' < j → ∃ tk', τ.1 55 (30 * f + j') = nI tk' ∧ tk' < tk
def parC : Int32 × Int32 × jx_S → Option ((Int32 × Int32 × jx_S) ⊕ jx_S) := fun s => p_cRea_readFunction_63_s s.1 s.2.1 (s.2.2)
def parR : Int32 × jx_S → Option ((Int32 × jx_S) ⊕ jx_S) := fun s => p_r_function0_103_s s.1 (s.2)
theorem fun_params {E : jEn} {f n ta : Nat} {G : jGh} : ∀ w i a sc τ ρ N M, i + w = 8 → w + 2 < N → w + 2 < M → PR E f n a n i sc G 0 0 0 τ ρ → sc.length = i → ParOK E f i τ ρ → TkB f ta i a τ → ta < a →
    (∃ τ' ρ', jx_loop N parC (nI f, nI i, τ) = some τ' ∧ jx_loop M parR (nI f, ρ) = some ρ' ∧ FX τ' ρ') ∨ ∃ i' a' sc' τ' ρ', i' ≤ 8 ∧ jx_loop N parC (nI f, nI i, τ) = p_cRea_readFunction_89 (nI f) τ' ∧ jx_loop M parR (nI f, ρ) = p_r_function0_131 (nI f) ρ' ∧ PR E f n a' n i' sc' G 0 0 0 τ' ρ' ∧ ParOK E f i' τ' ρ' ∧ TkB f ta i' a' τ' ∧ TK f n τ ρ τ' ρ' ∧ τ'.1 41 = τ.1 41 ∧ τ'.1 49 = τ.1 49 ∧ ρ'.1 126 = ρ.1 126 ∧ ρ'.1 130 = ρ.1 130 ∧ τ'.1 4 10 = τ.1 4 10 ∧ a ≤ a' := by
  have stp : ∀ i a sc τ ρ N M, i ≤ 8 → 2 < N → 2 < M → PR E f n a n i sc G 0 0 0 τ ρ → sc.length = i → ParOK E f i τ ρ → eK E a = 16 → (∃ τ' ρ', jx_loop N parC (nI f, nI i, τ) = some τ' ∧ jx_loop M parR (nI f, ρ) = some ρ' ∧ FX τ' ρ') ∨ (i < 8 ∧ ∃ a' τ' ρ', a < a' ∧ parC (nI f, nI i, τ) = some (.inl (nI f, nI (i + 1), τ')) ∧ parR (nI f, ρ) = some (.inl (nI f, ρ')) ∧ PR E f n a' n (i + 1) (i :: sc) G 0 0 0 τ' ρ' ∧ ParOK E f (i + 1) τ' ρ' ∧ TK f n τ ρ τ' ρ' ∧ τ'.1 41 = τ.1 41 ∧ τ'.1 49 = τ.1 49 ∧ ρ'.1 126 = ρ.1 126 ∧ ρ'.1 130 = ρ.1 130 ∧ τ'.1 4 10 = τ.1 4 10 ∧ a + 1 < a' ∧ τ'.1 55 (30 * f + i) = nI (a + 1) ∧ ∀ j, j < i → τ'.1 55 (30 * f + j) = τ.1 55 (30 * f + j)) := by
    intro i a sc τ ρ N M hi hN hM h hsc hPar hk
    have hb := PR_bounds h
    obtain ⟨kc, k1, k2, k3, k4, k5, k6⟩ := kind_ne h
    have h41 := h.2.2.1.2.2.1
    obtain ⟨τ', ρ', c1, c2, c3⟩ := param_step h hsc hPar hk hi
    have s1 : parC (nI f, nI i, τ) = some (.inl (nI f, nI (i + 1), τ')) := by
      unfold parC
      dsimp only
      unfold p_cRea_readFunction_63_s
      rw [if_neg (show ¬ (8 : Int32) < nI i from (nI_nlt (by omega) (by omega) : ¬ nI 8 < nI i)), k1, show kc = 16 by omega, if_neg (by decide), c1, Option.bind_some, ← nI_succ]
    have s2 : parR (nI f, ρ) = some (.inl (nI f, ρ')) := by
      unfold parR
      dsimp only
      unfold p_r_function0_103_s
      rw [h41, k3, if_neg (by decide), if_neg (nI_in (show a < 1202 by omega) (by omega)), nI_clamp (show a < 2 ^ 31 by omega), k2, hk, if_neg (by decide), c2, Option.bind_some]
    rcases c3 with ⟨t, s, x, c3⟩ | ⟨c3, a', d1, d2, d3, d4, d5, d6, d7, d8, d9, d10, d11⟩
    · left
      obtain ⟨N, rfl⟩ : ∃ K, N = K + 2 := ⟨N - 2, by omega⟩
      obtain ⟨M, rfl⟩ : ∃ K, M = K + 2 := ⟨M - 2, by omega⟩
      obtain ⟨τ'', u1, u2, u3⟩ := told_fun89 c3.1 (nI f)
      have hfp : ∃ ρ'', p_r_function0_131 (nI f) ρ' = some ρ'' ∧ ρ''.1 106 41 = 0 ∧ ρ''.1 106 4 = ρ'.1 106 4 ∧ ρ''.1 106 5 = ρ'.1 106 5 := by
        have f1 := (f_r_parameter0 ρ ρ jFr.rfl ρ' c2 106 45 (by decide) (by decide)).1
        rw [h.2.2.1.2.2.2.2.2.2.2.2.1] at f1
        exact shut_fun131 (t := 0) c3.2.1 c3.2.2.2.2.2.2.1 (by have := c3.2.2.2.2.2.2.2.1; omega) f1 (by omega) hb.2.2.2.2.1
      obtain ⟨ρ'', v1, v2, v3, v4⟩ := hfp
      refine ⟨τ'', ρ'', ?_, ?_, by rw [u2]; exact c3.1, v2, by rw [v3, u2]; exact c3.2.2.1, by rw [v4, u2]; exact c3.2.2.2.1, by rw [u3.1, u3.2]; exact c3.2.2.2.2.2.2.2.2⟩
      · rw [jx_loop_inl s1]
        refine jx_loop_out (X := some τ'') ?_ N
        show p_cRea_readFunction_63_s (nI f) (nI (i + 1)) τ' = _
        unfold p_cRea_readFunction_63_s
        rw [told_kind c3.1, u1]
        split <;> rfl
      · rw [jx_loop_inl s2]
        refine jx_loop_out (X := some ρ'') ?_ M
        show p_r_function0_103_s (nI f) ρ' = _
        unfold p_r_function0_103_s
        rw [if_pos c3.2.1, v1]
    · exact Or.inr ⟨c3, a', τ', ρ', d1, s1, s2, d2, d3, d4, d5, d6, d7, d8, fr4_par c1, d9, d10, d11⟩
  have stop : ∀ i a sc τ ρ N M, i ≤ 8 → 0 < N → 0 < M → PR E f n a n i sc G 0 0 0 τ ρ → eK E a ≠ 16 → jx_loop N parC (nI f, nI i, τ) = p_cRea_readFunction_89 (nI f) τ ∧ jx_loop M parR (nI f, ρ) = p_r_function0_131 (nI f) ρ := by
    intro i a sc τ ρ N M hi hN hM h hk
    have hb := PR_bounds h
    obtain ⟨kc, k1, k2, k3, k4, k5, k6⟩ := kind_ne h
    have h41 := h.2.2.1.2.2.1
    obtain ⟨N, rfl⟩ : ∃ K, N = K + 1 := ⟨N - 1, by omega⟩
    obtain ⟨M, rfl⟩ : ∃ K, M = K + 1 := ⟨M - 1, by omega⟩
    refine ⟨jx_loop_out ?_ N, jx_loop_out ?_ M⟩
    · show p_cRea_readFunction_63_s (nI f) (nI i) τ = _
      unfold p_cRea_readFunction_63_s
      rw [if_neg (show ¬ (8 : Int32) < nI i from (nI_nlt (by omega) (by omega) : ¬ nI 8 < nI i)), k1, if_pos (show ¬ nI kc = (16 : Int32) from fun q => by have := (nI_eq (b := 16) (by omega) (by omega)).mp q; omega)]
    · show p_r_function0_103_s (nI f) ρ = _
      unfold p_r_function0_103_s
      rw [h41, k3, if_neg (by decide), if_neg (nI_in (show a < 1202 by omega) (by omega)), nI_clamp (show a < 2 ^ 31 by omega), k2, if_pos (show ¬ nI (eK E a) = (16 : Int32) from fun q => hk ((nI_eq (b := 16) (by omega) (by omega)).mp q))]
  intro w
  induction w with
  | zero =>
    intro i a sc τ ρ N M hi hN hM h hsc hPar hTk hta
    by_cases hk : eK E a = 16
    · rcases stp i a sc τ ρ N M (by omega) (by omega) (by omega) h hsc hPar hk with q | ⟨q, _⟩
      · exact Or.inl q
      · omega
    · obtain ⟨q1, q2⟩ := stop i a sc τ ρ N M (by omega) (by omega) (by omega) h hk
      exact Or.inr ⟨i, a, sc, τ, ρ, by omega, q1, q2, h, hPar, hTk, TK_refl, rfl, rfl, rfl, rfl, rfl, Nat.le_refl a⟩
  | succ w ih =>
    intro i a sc τ ρ N M hi hN hM h hsc hPar hTk hta
    by_cases hk : eK E a = 16
    · rcases stp i a sc τ ρ N M (by omega) (by omega) (by omega) h hsc hPar hk with q | ⟨q, a1, τ1, ρ1, d1, d2, d3, d4, d5, d6, d7, d8, d9, d10, d11, d12, d13, d14⟩
      · exact Or.inl q
      · obtain ⟨N, rfl⟩ : ∃ K, N = K + 1 := ⟨N - 1, by omega⟩
        obtain ⟨M, rfl⟩ : ∃ K, M = K + 1 := ⟨M - 1, by omega⟩
        have hTk1 : TkB f ta (i + 1) a1 τ1 := by
          intro j hj
          by_cases hji : j = i
          · subst hji
            refine ⟨a + 1, d13, by omega, d12, fun j' hj' => ?_⟩
            obtain ⟨tk, w1, w2, w3, _⟩ := hTk j' hj'
            exact ⟨tk, by rw [d14 j' hj']; exact w1, by omega⟩
          · obtain ⟨tk, w1, w2, w3, w4⟩ := hTk j (by omega)
            refine ⟨tk, by rw [d14 j (by omega)]; exact w1, w2, by omega, fun j' hj' => ?_⟩
            obtain ⟨tk', y1, y2⟩ := w4 j' hj'
            exact ⟨tk', by rw [d14 j' (by omega)]; exact y1, y2⟩
        rcases ih (i + 1) a1 (i :: sc) τ1 ρ1 N M (by omega) (by omega) (by omega) d4 (by simp only [List.length_cons]; omega) d5 hTk1 (by omega) with ⟨τ', ρ', e1, e2, e3⟩ | ⟨i', a', sc', τ', ρ', e1, e2, e3, e4, e5, e6, e7, e8, e9, e10, e11, e12, e13⟩
        · exact Or.inl ⟨τ', ρ', by rw [jx_loop_inl d2]; exact e1, by rw [jx_loop_inl d3]; exact e2, e3⟩
        · exact Or.inr ⟨i', a', sc', τ', ρ', e1, by rw [jx_loop_inl d2]; exact e2, by rw [jx_loop_inl d3]; exact e3, e4, e5, e6, TK_trans d6 e7 (Nat.le_refl _), by rw [e8, d7], by rw [e9, d8], by rw [e10, d9], by rw [e11, d10], by rw [e12, d11], by omega⟩
    · obtain ⟨q1, q2⟩ := stop i a sc τ ρ N M (by omega) (by omega) (by omega) h hk
      exact Or.inr ⟨i, a, sc, τ, ρ, by omega, q1, q2, h, hPar, hTk, TK_refl, rfl, rfl, rfl, rfl, rfl, Nat.le_refl a⟩
/-- a function, with where it begins and ends -/
def FunOK (E : jEn) (G : jGh) (τ ρ : jx_S) (g nf r ta te : Nat) : Prop := ∃ p b l, FunB E G τ ρ g nf r p b l ∧ τ.1 41 g = nI ta ∧ ρ.1 126 g = nI ta ∧ ta < eC E ∧ eK E ta = 1 ∧ ta < te ∧ τ.1 49 g = nI (nf + 1) ∧ ρ.1 130 g = nI (letc (ρ.1 112) nf (r + 1 - nf)) ∧ TkB g ta p te τ
def opn (τ : jx_S) (f a n : Nat) : jx_S := jx_i (jI_put 40 (jI_put 40 (jI_put 40 (jI_put 40 (jI_put 40 (jI_put 40 (jI_put 40 (jx_i (jx_i τ 5 7 (nI f)) 5 5 0) 41 (nI f) (nI a)) 43 (nI f) 0) 45 (nI f) 0) 47 (nI f) 0) 49 (nI f) (nI (n + 1))) 51 (nI f) 0) 53 (nI f) 1) 4 10 (nI (f + 1))
def rop (ρ : jx_S) (f a : Nat) : jx_S := jx_i (jx_i (jx_i (jx_i (jx_i (jx_i (jx_i (jx_i ρ 126 f (nI a)) 127 f 0) 130 f 0) 106 49 0) 106 52 0) 106 48 0) 106 45 0) 106 47 0
theorem TkB_mono {f ta i a a' : Nat} {τ τ' : jx_S} (h : TkB f ta i a τ) (ha : a ≤ a') (he : ∀ j, j < i → τ'.1 55 (30 * f + j) = τ.1 55 (30 * f + j)) : TkB f ta i a' τ' := by
  intro j hj
  obtain ⟨tk, w1, w2, w3, w4⟩ := h j hj
  refine ⟨tk, by rw [he j hj]; exact w1, w2, by omega, fun j' hj' => ?_⟩
  obtain ⟨tk', y1, y2⟩ := w4 j' hj'
  exact ⟨tk', by rw [he j' (by omega)]; exact y1, y2⟩
theorem fun_step {E : jEn} {f a n : Nat} {G : jGh} {τ ρ : jx_S} (h : PG E f a n τ ρ) (hac : a < eC E) :
    ∃ τ' ρ', p_cRea_readFunction (nI f) τ = some τ' ∧ p_r_function0 ρ = some ρ' ∧ (FX τ' ρ' ∨ (f < 40 ∧ ∃ a' n' G', a < a' ∧ n < n' ∧ PG E (f + 1) a' n' τ' ρ' ∧ FunOK E G' τ' ρ' f n (n' - 1) a a' ∧ TK f n τ ρ τ' ρ' ∧ ∀ j, j < n → G' j = G j)) := by
  obtain ⟨hE, hC, hR, ⟨t1, t2, t3, t4, t5⟩, ⟨r1, r2, r3, r4, r5⟩, g1, g2, g3⟩ := h
  have hE1 := hE.1
  have hkd := q_kind hE hC t1 t2 g1
  have hor := eKc_or hE g1
  have r8 := (hR.2 a g1).1
  have r9 := (hR.2 a g1).2.1
  have hstop : ∀ x : Int32, x ≠ 0 → p_cRea_tell x τ = some (ctell τ x (nI (eP E a))) ∧ p_r_stop x (nI a) ρ = some (jx_i (rtell ρ x (nI (eP E a))) 106 41 0) ∧ FX (ctell τ x (nI (eP E a))) (jx_i (rtell ρ x (nI (eP E a))) 106 41 0) := by
    intro x hx
    refine ⟨q_tell x hE hC t1 t2 g1, q_r_stop x r1 (by omega) r9, ?_⟩
    unfold ctell rtell
    exact ⟨by simp (disch := first | assumption | decide | omega) only [nI_lit, cT_lt, cF_lt, cT_le, cF_le, cT_eq, cF_eq, nF_le, mF_eq, mG_eq, mT_lt, eq_self, nI_clamp, nI_add, Nat.add_zero, nI_sub, s_i_ne, s_i_eq, s_i_2, s_l_1, s_l_ne, s_l_eq, s_p_ne, s_p_eq, s_p_2, s_q_1, s_q_ne, s_q_eq, u_ne, u_eq, v_ne, v_eq, w_ne, w_eq, jI_at_in, jL_at_in, false_or, or_false, true_or, or_true, true_and, and_true, false_and, and_false, not_true_eq_false, not_false_eq_true, ↓reduceIte, Option.bind_some, Option.map_some]; exact hx, by simp (disch := first | assumption | decide | omega) only [nI_lit, cT_lt, cF_lt, cT_le, cF_le, cT_eq, cF_eq, nF_le, mF_eq, mG_eq, mT_lt, eq_self, nI_clamp, nI_add, Nat.add_zero, nI_sub, s_i_ne, s_i_eq, s_i_2, s_l_1, s_l_ne, s_l_eq, s_p_ne, s_p_eq, s_p_2, s_q_1, s_q_ne, s_q_eq, u_ne, u_eq, v_ne, v_eq, w_ne, w_eq, jI_at_in, jL_at_in, false_or, or_false, true_or, or_true, true_and, and_true, false_and, and_false, not_true_eq_false, not_false_eq_true, ↓reduceIte, Option.bind_some, Option.map_some], by simp (disch := first | assumption | decide | omega) only [nI_lit, cT_lt, cF_lt, cT_le, cF_le, cT_eq, cF_eq, nF_le, mF_eq, mG_eq, mT_lt, eq_self, nI_clamp, nI_add, Nat.add_zero, nI_sub, s_i_ne, s_i_eq, s_i_2, s_l_1, s_l_ne, s_l_eq, s_p_ne, s_p_eq, s_p_2, s_q_1, s_q_ne, s_q_eq, u_ne, u_eq, v_ne, v_eq, w_ne, w_eq, jI_at_in, jL_at_in, false_or, or_false, true_or, or_true, true_and, and_true, false_and, and_false, not_true_eq_false, not_false_eq_true, ↓reduceIte, Option.bind_some, Option.map_some], by simp (disch := first | assumption | decide | omega) only [nI_lit, cT_lt, cF_lt, cT_le, cF_le, cT_eq, cF_eq, nF_le, mF_eq, mG_eq, mT_lt, eq_self, nI_clamp, nI_add, Nat.add_zero, nI_sub, s_i_ne, s_i_eq, s_i_2, s_l_1, s_l_ne, s_l_eq, s_p_ne, s_p_eq, s_p_2, s_q_1, s_q_ne, s_q_eq, u_ne, u_eq, v_ne, v_eq, w_ne, w_eq, jI_at_in, jL_at_in, false_or, or_false, true_or, or_true, true_and, and_true, false_and, and_false, not_true_eq_false, not_false_eq_true, ↓reduceIte, Option.bind_some, Option.map_some], by simp (disch := first | assumption | decide | omega) only [t5, nI_lit, cT_lt, cF_lt, cT_le, cF_le, cT_eq, cF_eq, nF_le, mF_eq, mG_eq, mT_lt, eq_self, nI_clamp, nI_add, Nat.add_zero, nI_sub, s_i_ne, s_i_eq, s_i_2, s_l_1, s_l_ne, s_l_eq, s_p_ne, s_p_eq, s_p_2, s_q_1, s_q_ne, s_q_eq, u_ne, u_eq, v_ne, v_eq, w_ne, w_eq, jI_at_in, jL_at_in, false_or, or_false, true_or, or_true, true_and, and_true, false_and, and_false, not_true_eq_false, not_false_eq_true, ↓reduceIte, Option.bind_some, Option.map_some]⟩
  by_cases hk : eK E a = 1
  rotate_left
  · obtain ⟨s1, s2, s3⟩ := hstop (nI 2) (by decide)
    refine ⟨_, _, ?_, ?_, Or.inl s3⟩
    · unfold p_cRea_readFunction
      rw [hkd, if_neg (fun q => by have := (nI_eq (b := 1) (by omega) (by omega)).mp q; omega)]
      show ((p_cRea_tell (nI 2) τ).bind _) = _
      rw [s1, Option.bind_some]
    · unfold p_r_function0
      rw [r3, if_neg (nI_in (show a < 1202 by omega) (by omega)), nI_clamp (show a < 2 ^ 31 by omega), r8, if_neg (show ¬ nI (eK E a) = (1 : Int32) from fun q => hk ((nI_eq (b := 1) (by omega) (by omega)).mp q))]
      show ((p_r_stop (nI 2) (nI a) ρ).bind _) = _
      rw [s2, Option.bind_some]
  by_cases hf : f = 40
  · obtain ⟨s1, s2, s3⟩ := hstop (nI 4) (by decide)
    refine ⟨_, _, ?_, ?_, Or.inl s3⟩
    · unfold p_cRea_readFunction
      rw [hkd, show eKc E a = 1 by omega, if_pos (show nI 1 = 1 from rfl), if_neg (by rw [hf]; decide)]
      show ((p_cRea_tell (nI 4) τ).bind _) = _
      rw [s1, Option.bind_some]
    · unfold p_r_function0
      rw [r3, if_neg (nI_in (show a < 1202 by omega) (by omega)), nI_clamp (show a < 2 ^ 31 by omega), r8, hk, if_pos (show nI 1 = 1 from rfl), r5, if_neg (by rw [hf]; decide)]
      show ((p_r_stop (nI 4) (nI a) ρ).bind _) = _
      rw [s2, Option.bind_some]
  have hP0 : PR E f n a n 0 [] G 0 0 0 (opn τ f a n) (rop ρ f a) := by
    refine ⟨hE, ?_, ?_, ⟨g1, g2, Nat.le_refl n, by omega, by omega, by simp, by omega⟩, trivial, fun i hi => absurd hi (by omega), fun k k1 k2 => by omega⟩
    · unfold opn
      exact ⟨EnvC_keep hC (by simp (disch := first | assumption | decide | omega) only [nI_lit, cT_lt, cF_lt, cT_le, cF_le, cT_eq, cF_eq, nF_le, mF_eq, mG_eq, mT_lt, eq_self, nI_clamp, nI_add, Nat.add_zero, nI_sub, s_i_ne, s_i_eq, s_i_2, s_l_1, s_l_ne, s_l_eq, s_p_ne, s_p_eq, s_p_2, s_q_1, s_q_ne, s_q_eq, u_ne, u_eq, v_ne, v_eq, w_ne, w_eq, jI_at_in, jL_at_in, false_or, or_false, true_or, or_true, true_and, and_true, false_and, and_false, not_true_eq_false, not_false_eq_true, ↓reduceIte, Option.bind_some, Option.map_some]) (by simp (disch := first | assumption | decide | omega) only [nI_lit, cT_lt, cF_lt, cT_le, cF_le, cT_eq, cF_eq, nF_le, mF_eq, mG_eq, mT_lt, eq_self, nI_clamp, nI_add, Nat.add_zero, nI_sub, s_i_ne, s_i_eq, s_i_2, s_l_1, s_l_ne, s_l_eq, s_p_ne, s_p_eq, s_p_2, s_q_1, s_q_ne, s_q_eq, u_ne, u_eq, v_ne, v_eq, w_ne, w_eq, jI_at_in, jL_at_in, false_or, or_false, true_or, or_true, true_and, and_true, false_and, and_false, not_true_eq_false, not_false_eq_true, ↓reduceIte, Option.bind_some, Option.map_some]) (by simp (disch := first | assumption | decide | omega) only [nI_lit, cT_lt, cF_lt, cT_le, cF_le, cT_eq, cF_eq, nF_le, mF_eq, mG_eq, mT_lt, eq_self, nI_clamp, nI_add, Nat.add_zero, nI_sub, s_i_ne, s_i_eq, s_i_2, s_l_1, s_l_ne, s_l_eq, s_p_ne, s_p_eq, s_p_2, s_q_1, s_q_ne, s_q_eq, u_ne, u_eq, v_ne, v_eq, w_ne, w_eq, jI_at_in, jL_at_in, false_or, or_false, true_or, or_true, true_and, and_true, false_and, and_false, not_true_eq_false, not_false_eq_true, ↓reduceIte, Option.bind_some, Option.map_some]), by simp (disch := first | assumption | decide | omega) only [t1, nI_lit, cT_lt, cF_lt, cT_le, cF_le, cT_eq, cF_eq, nF_le, mF_eq, mG_eq, mT_lt, eq_self, nI_clamp, nI_add, Nat.add_zero, nI_sub, s_i_ne, s_i_eq, s_i_2, s_l_1, s_l_ne, s_l_eq, s_p_ne, s_p_eq, s_p_2, s_q_1, s_q_ne, s_q_eq, u_ne, u_eq, v_ne, v_eq, w_ne, w_eq, jI_at_in, jL_at_in, false_or, or_false, true_or, or_true, true_and, and_true, false_and, and_false, not_true_eq_false, not_false_eq_true, ↓reduceIte, Option.bind_some, Option.map_some], by simp (disch := first | assumption | decide | omega) only [t2, nI_lit, cT_lt, cF_lt, cT_le, cF_le, cT_eq, cF_eq, nF_le, mF_eq, mG_eq, mT_lt, eq_self, nI_clamp, nI_add, Nat.add_zero, nI_sub, s_i_ne, s_i_eq, s_i_2, s_l_1, s_l_ne, s_l_eq, s_p_ne, s_p_eq, s_p_2, s_q_1, s_q_ne, s_q_eq, u_ne, u_eq, v_ne, v_eq, w_ne, w_eq, jI_at_in, jL_at_in, false_or, or_false, true_or, or_true, true_and, and_true, false_and, and_false, not_true_eq_false, not_false_eq_true, ↓reduceIte, Option.bind_some, Option.map_some], by simp (disch := first | assumption | decide | omega) only [t3, nI_lit, cT_lt, cF_lt, cT_le, cF_le, cT_eq, cF_eq, nF_le, mF_eq, mG_eq, mT_lt, eq_self, nI_clamp, nI_add, Nat.add_zero, nI_sub, s_i_ne, s_i_eq, s_i_2, s_l_1, s_l_ne, s_l_eq, s_p_ne, s_p_eq, s_p_2, s_q_1, s_q_ne, s_q_eq, u_ne, u_eq, v_ne, v_eq, w_ne, w_eq, jI_at_in, jL_at_in, false_or, or_false, true_or, or_true, true_and, and_true, false_and, and_false, not_true_eq_false, not_false_eq_true, ↓reduceIte, Option.bind_some, Option.map_some], by simp (disch := first | assumption | decide | omega) only [nI_lit, cT_lt, cF_lt, cT_le, cF_le, cT_eq, cF_eq, nF_le, mF_eq, mG_eq, mT_lt, eq_self, nI_clamp, nI_add, Nat.add_zero, nI_sub, s_i_ne, s_i_eq, s_i_2, s_l_1, s_l_ne, s_l_eq, s_p_ne, s_p_eq, s_p_2, s_q_1, s_q_ne, s_q_eq, u_ne, u_eq, v_ne, v_eq, w_ne, w_eq, jI_at_in, jL_at_in, false_or, or_false, true_or, or_true, true_and, and_true, false_and, and_false, not_true_eq_false, not_false_eq_true, ↓reduceIte, Option.bind_some, Option.map_some], by simp (disch := first | assumption | decide | omega) only [nI_lit, cT_lt, cF_lt, cT_le, cF_le, cT_eq, cF_eq, nF_le, mF_eq, mG_eq, mT_lt, eq_self, nI_clamp, nI_add, Nat.add_zero, nI_sub, s_i_ne, s_i_eq, s_i_2, s_l_1, s_l_ne, s_l_eq, s_p_ne, s_p_eq, s_p_2, s_q_1, s_q_ne, s_q_eq, u_ne, u_eq, v_ne, v_eq, w_ne, w_eq, jI_at_in, jL_at_in, false_or, or_false, true_or, or_true, true_and, and_true, false_and, and_false, not_true_eq_false, not_false_eq_true, ↓reduceIte, Option.bind_some, Option.map_some], by simp (disch := first | assumption | decide | omega) only [List.length_nil, nI_lit, cT_lt, cF_lt, cT_le, cF_le, cT_eq, cF_eq, nF_le, mF_eq, mG_eq, mT_lt, eq_self, nI_clamp, nI_add, Nat.add_zero, nI_sub, s_i_ne, s_i_eq, s_i_2, s_l_1, s_l_ne, s_l_eq, s_p_ne, s_p_eq, s_p_2, s_q_1, s_q_ne, s_q_eq, u_ne, u_eq, v_ne, v_eq, w_ne, w_eq, jI_at_in, jL_at_in, false_or, or_false, true_or, or_true, true_and, and_true, false_and, and_false, not_true_eq_false, not_false_eq_true, ↓reduceIte, Option.bind_some, Option.map_some], by simp (disch := first | assumption | decide | omega) only [t5, nI_lit, cT_lt, cF_lt, cT_le, cF_le, cT_eq, cF_eq, nF_le, mF_eq, mG_eq, mT_lt, eq_self, nI_clamp, nI_add, Nat.add_zero, nI_sub, s_i_ne, s_i_eq, s_i_2, s_l_1, s_l_ne, s_l_eq, s_p_ne, s_p_eq, s_p_2, s_q_1, s_q_ne, s_q_eq, u_ne, u_eq, v_ne, v_eq, w_ne, w_eq, jI_at_in, jL_at_in, false_or, or_false, true_or, or_true, true_and, and_true, false_and, and_false, not_true_eq_false, not_false_eq_true, ↓reduceIte, Option.bind_some, Option.map_some]⟩
    · unfold rop
      exact ⟨EnvR_keep hR (by simp (disch := first | assumption | decide | omega) only [nI_lit, cT_lt, cF_lt, cT_le, cF_le, cT_eq, cF_eq, nF_le, mF_eq, mG_eq, mT_lt, eq_self, nI_clamp, nI_add, Nat.add_zero, nI_sub, s_i_ne, s_i_eq, s_i_2, s_l_1, s_l_ne, s_l_eq, s_p_ne, s_p_eq, s_p_2, s_q_1, s_q_ne, s_q_eq, u_ne, u_eq, v_ne, v_eq, w_ne, w_eq, jI_at_in, jL_at_in, false_or, or_false, true_or, or_true, true_and, and_true, false_and, and_false, not_true_eq_false, not_false_eq_true, ↓reduceIte, Option.bind_some, Option.map_some]) (by simp (disch := first | assumption | decide | omega) only [nI_lit, cT_lt, cF_lt, cT_le, cF_le, cT_eq, cF_eq, nF_le, mF_eq, mG_eq, mT_lt, eq_self, nI_clamp, nI_add, Nat.add_zero, nI_sub, s_i_ne, s_i_eq, s_i_2, s_l_1, s_l_ne, s_l_eq, s_p_ne, s_p_eq, s_p_2, s_q_1, s_q_ne, s_q_eq, u_ne, u_eq, v_ne, v_eq, w_ne, w_eq, jI_at_in, jL_at_in, false_or, or_false, true_or, or_true, true_and, and_true, false_and, and_false, not_true_eq_false, not_false_eq_true, ↓reduceIte, Option.bind_some, Option.map_some]) (by simp (disch := first | assumption | decide | omega) only [nI_lit, cT_lt, cF_lt, cT_le, cF_le, cT_eq, cF_eq, nF_le, mF_eq, mG_eq, mT_lt, eq_self, nI_clamp, nI_add, Nat.add_zero, nI_sub, s_i_ne, s_i_eq, s_i_2, s_l_1, s_l_ne, s_l_eq, s_p_ne, s_p_eq, s_p_2, s_q_1, s_q_ne, s_q_eq, u_ne, u_eq, v_ne, v_eq, w_ne, w_eq, jI_at_in, jL_at_in, false_or, or_false, true_or, or_true, true_and, and_true, false_and, and_false, not_true_eq_false, not_false_eq_true, ↓reduceIte, Option.bind_some, Option.map_some]) (by simp (disch := first | assumption | decide | omega) only [nI_lit, cT_lt, cF_lt, cT_le, cF_le, cT_eq, cF_eq, nF_le, mF_eq, mG_eq, mT_lt, eq_self, nI_clamp, nI_add, Nat.add_zero, nI_sub, s_i_ne, s_i_eq, s_i_2, s_l_1, s_l_ne, s_l_eq, s_p_ne, s_p_eq, s_p_2, s_q_1, s_q_ne, s_q_eq, u_ne, u_eq, v_ne, v_eq, w_ne, w_eq, jI_at_in, jL_at_in, false_or, or_false, true_or, or_true, true_and, and_true, false_and, and_false, not_true_eq_false, not_false_eq_true, ↓reduceIte, Option.bind_some, Option.map_some]) (by simp (disch := first | assumption | decide | omega) only [nI_lit, cT_lt, cF_lt, cT_le, cF_le, cT_eq, cF_eq, nF_le, mF_eq, mG_eq, mT_lt, eq_self, nI_clamp, nI_add, Nat.add_zero, nI_sub, s_i_ne, s_i_eq, s_i_2, s_l_1, s_l_ne, s_l_eq, s_p_ne, s_p_eq, s_p_2, s_q_1, s_q_ne, s_q_eq, u_ne, u_eq, v_ne, v_eq, w_ne, w_eq, jI_at_in, jL_at_in, false_or, or_false, true_or, or_true, true_and, and_true, false_and, and_false, not_true_eq_false, not_false_eq_true, ↓reduceIte, Option.bind_some, Option.map_some]), by simp (disch := first | assumption | decide | omega) only [r1, nI_lit, cT_lt, cF_lt, cT_le, cF_le, cT_eq, cF_eq, nF_le, mF_eq, mG_eq, mT_lt, eq_self, nI_clamp, nI_add, Nat.add_zero, nI_sub, s_i_ne, s_i_eq, s_i_2, s_l_1, s_l_ne, s_l_eq, s_p_ne, s_p_eq, s_p_2, s_q_1, s_q_ne, s_q_eq, u_ne, u_eq, v_ne, v_eq, w_ne, w_eq, jI_at_in, jL_at_in, false_or, or_false, true_or, or_true, true_and, and_true, false_and, and_false, not_true_eq_false, not_false_eq_true, ↓reduceIte, Option.bind_some, Option.map_some], by simp (disch := first | assumption | decide | omega) only [r2, nI_lit, cT_lt, cF_lt, cT_le, cF_le, cT_eq, cF_eq, nF_le, mF_eq, mG_eq, mT_lt, eq_self, nI_clamp, nI_add, Nat.add_zero, nI_sub, s_i_ne, s_i_eq, s_i_2, s_l_1, s_l_ne, s_l_eq, s_p_ne, s_p_eq, s_p_2, s_q_1, s_q_ne, s_q_eq, u_ne, u_eq, v_ne, v_eq, w_ne, w_eq, jI_at_in, jL_at_in, false_or, or_false, true_or, or_true, true_and, and_true, false_and, and_false, not_true_eq_false, not_false_eq_true, ↓reduceIte, Option.bind_some, Option.map_some], by simp (disch := first | assumption | decide | omega) only [r3, nI_lit, cT_lt, cF_lt, cT_le, cF_le, cT_eq, cF_eq, nF_le, mF_eq, mG_eq, mT_lt, eq_self, nI_clamp, nI_add, Nat.add_zero, nI_sub, s_i_ne, s_i_eq, s_i_2, s_l_1, s_l_ne, s_l_eq, s_p_ne, s_p_eq, s_p_2, s_q_1, s_q_ne, s_q_eq, u_ne, u_eq, v_ne, v_eq, w_ne, w_eq, jI_at_in, jL_at_in, false_or, or_false, true_or, or_true, true_and, and_true, false_and, and_false, not_true_eq_false, not_false_eq_true, ↓reduceIte, Option.bind_some, Option.map_some], by simp (disch := first | assumption | decide | omega) only [r4, nI_lit, cT_lt, cF_lt, cT_le, cF_le, cT_eq, cF_eq, nF_le, mF_eq, mG_eq, mT_lt, eq_self, nI_clamp, nI_add, Nat.add_zero, nI_sub, s_i_ne, s_i_eq, s_i_2, s_l_1, s_l_ne, s_l_eq, s_p_ne, s_p_eq, s_p_2, s_q_1, s_q_ne, s_q_eq, u_ne, u_eq, v_ne, v_eq, w_ne, w_eq, jI_at_in, jL_at_in, false_or, or_false, true_or, or_true, true_and, and_true, false_and, and_false, not_true_eq_false, not_false_eq_true, ↓reduceIte, Option.bind_some, Option.map_some], by simp (disch := first | assumption | decide | omega) only [r5, nI_lit, cT_lt, cF_lt, cT_le, cF_le, cT_eq, cF_eq, nF_le, mF_eq, mG_eq, mT_lt, eq_self, nI_clamp, nI_add, Nat.add_zero, nI_sub, s_i_ne, s_i_eq, s_i_2, s_l_1, s_l_ne, s_l_eq, s_p_ne, s_p_eq, s_p_2, s_q_1, s_q_ne, s_q_eq, u_ne, u_eq, v_ne, v_eq, w_ne, w_eq, jI_at_in, jL_at_in, false_or, or_false, true_or, or_true, true_and, and_true, false_and, and_false, not_true_eq_false, not_false_eq_true, ↓reduceIte, Option.bind_some, Option.map_some], by simp (disch := first | assumption | decide | omega) only [nI_lit, cT_lt, cF_lt, cT_le, cF_le, cT_eq, cF_eq, nF_le, mF_eq, mG_eq, mT_lt, eq_self, nI_clamp, nI_add, Nat.add_zero, nI_sub, s_i_ne, s_i_eq, s_i_2, s_l_1, s_l_ne, s_l_eq, s_p_ne, s_p_eq, s_p_2, s_q_1, s_q_ne, s_q_eq, u_ne, u_eq, v_ne, v_eq, w_ne, w_eq, jI_at_in, jL_at_in, false_or, or_false, true_or, or_true, true_and, and_true, false_and, and_false, not_true_eq_false, not_false_eq_true, ↓reduceIte, Option.bind_some, Option.map_some], by simp (disch := first | assumption | decide | omega) only [List.length_nil, nI_lit, cT_lt, cF_lt, cT_le, cF_le, cT_eq, cF_eq, nF_le, mF_eq, mG_eq, mT_lt, eq_self, nI_clamp, nI_add, Nat.add_zero, nI_sub, s_i_ne, s_i_eq, s_i_2, s_l_1, s_l_ne, s_l_eq, s_p_ne, s_p_eq, s_p_2, s_q_1, s_q_ne, s_q_eq, u_ne, u_eq, v_ne, v_eq, w_ne, w_eq, jI_at_in, jL_at_in, false_or, or_false, true_or, or_true, true_and, and_true, false_and, and_false, not_true_eq_false, not_false_eq_true, ↓reduceIte, Option.bind_some, Option.map_some], by simp (disch := first | assumption | decide | omega) only [nI_lit, cT_lt, cF_lt, cT_le, cF_le, cT_eq, cF_eq, nF_le, mF_eq, mG_eq, mT_lt, eq_self, nI_clamp, nI_add, Nat.add_zero, nI_sub, s_i_ne, s_i_eq, s_i_2, s_l_1, s_l_ne, s_l_eq, s_p_ne, s_p_eq, s_p_2, s_q_1, s_q_ne, s_q_eq, u_ne, u_eq, v_ne, v_eq, w_ne, w_eq, jI_at_in, jL_at_in, false_or, or_false, true_or, or_true, true_and, and_true, false_and, and_false, not_true_eq_false, not_false_eq_true, ↓reduceIte, Option.bind_some, Option.map_some], by simp (disch := first | assumption | decide | omega) only [nI_lit, cT_lt, cF_lt, cT_le, cF_le, cT_eq, cF_eq, nF_le, mF_eq, mG_eq, mT_lt, eq_self, nI_clamp, nI_add, Nat.add_zero, nI_sub, s_i_ne, s_i_eq, s_i_2, s_l_1, s_l_ne, s_l_eq, s_p_ne, s_p_eq, s_p_2, s_q_1, s_q_ne, s_q_eq, u_ne, u_eq, v_ne, v_eq, w_ne, w_eq, jI_at_in, jL_at_in, false_or, or_false, true_or, or_true, true_and, and_true, false_and, and_false, not_true_eq_false, not_false_eq_true, ↓reduceIte, Option.bind_some, Option.map_some], by simp (disch := first | assumption | decide | omega) only [nI_lit, cT_lt, cF_lt, cT_le, cF_le, cT_eq, cF_eq, nF_le, mF_eq, mG_eq, mT_lt, eq_self, nI_clamp, nI_add, Nat.add_zero, nI_sub, s_i_ne, s_i_eq, s_i_2, s_l_1, s_l_ne, s_l_eq, s_p_ne, s_p_eq, s_p_2, s_q_1, s_q_ne, s_q_eq, u_ne, u_eq, v_ne, v_eq, w_ne, w_eq, jI_at_in, jL_at_in, false_or, or_false, true_or, or_true, true_and, and_true, false_and, and_false, not_true_eq_false, not_false_eq_true, ↓reduceIte, Option.bind_some, Option.map_some]⟩
  obtain ⟨p1, p2, p3, p4, p5, p6⟩ := pass_ok hP0 1 hk (by omega)
  have par0 : ParOK E f 0 (jx_i (opn τ f a n) 5 6 (nI (a + 1))) (jx_i (rop ρ f a) 106 40 (nI (a + 1))) := by
    refine ⟨by unfold opn; simp (disch := first | assumption | decide | omega) only [nI_lit, cT_lt, cF_lt, cT_le, cF_le, cT_eq, cF_eq, nF_le, mF_eq, mG_eq, mT_lt, eq_self, nI_clamp, nI_add, Nat.add_zero, nI_sub, s_i_ne, s_i_eq, s_i_2, s_l_1, s_l_ne, s_l_eq, s_p_ne, s_p_eq, s_p_2, s_q_1, s_q_ne, s_q_eq, u_ne, u_eq, v_ne, v_eq, w_ne, w_eq, jI_at_in, jL_at_in, false_or, or_false, true_or, or_true, true_and, and_true, false_and, and_false, not_true_eq_false, not_false_eq_true, ↓reduceIte, Option.bind_some, Option.map_some], by unfold rop; simp (disch := first | assumption | decide | omega) only [nI_lit, cT_lt, cF_lt, cT_le, cF_le, cT_eq, cF_eq, nF_le, mF_eq, mG_eq, mT_lt, eq_self, nI_clamp, nI_add, Nat.add_zero, nI_sub, s_i_ne, s_i_eq, s_i_2, s_l_1, s_l_ne, s_l_eq, s_p_ne, s_p_eq, s_p_2, s_q_1, s_q_ne, s_q_eq, u_ne, u_eq, v_ne, v_eq, w_ne, w_eq, jI_at_in, jL_at_in, false_or, or_false, true_or, or_true, true_and, and_true, false_and, and_false, not_true_eq_false, not_false_eq_true, ↓reduceIte, Option.bind_some, Option.map_some], fun j hj => absurd hj (by omega)⟩
  have hcl : ∀ r, jx_loop 100000000 parC (nI f, nI 0, jx_i (opn τ f a n) 5 6 (nI (a + 1))) = r → p_cRea_readFunction (nI f) τ = r := by
    intro r q
    have ho : p_cFun_open (τ.1 5 6) (τ.1 3 9 + 1) (jx_i (jx_i τ 5 7 (nI f)) 5 5 0) = some (opn τ f a n) := by
      unfold p_cFun_open opn
      rw [t2, t3, nI_1, s_i_ne (show (4 : Nat) ≠ 5 by decide), s_i_ne (show (4 : Nat) ≠ 5 by decide), t4]
      rw [show nI f + (1 : Int32) = nI (f + 1) from nI_1 f]
    unfold p_cRea_readFunction
    rw [hkd, show eKc E a = 1 by omega, if_pos (show nI 1 = 1 from rfl), if_pos (show ¬ nI f = (40 : Int32) from fun q => hf ((nI_eq (b := 40) (by omega) (by omega)).mp q)), ho, Option.bind_some]
    show ((p_cRea_pass (nI 1) (opn τ f a n)).bind _) = _
    rw [p4, Option.bind_some]
    exact q
  have hrf : ∀ r, jx_loop 100000000 parR (nI f, jx_i (rop ρ f a) 106 40 (nI (a + 1))) = r → p_r_function0 ρ = r := by
    intro r q
    unfold p_r_function0
    rw [r3, if_neg (nI_in (show a < 1202 by omega) (by omega)), nI_clamp (show a < 2 ^ 31 by omega), r8, hk, if_pos (show nI 1 = 1 from rfl), r5, if_pos (show ¬ nI f = (40 : Int32) from fun q => hf ((nI_eq (b := 40) (by omega) (by omega)).mp q)), if_neg (nI_in (show f < 40 by omega) (by omega)), if_neg (nI_in (show f < 40 by omega) (by omega)), if_neg (nI_in (show f < 40 by omega) (by omega)), nI_clamp (show f < 2 ^ 31 by omega), nI_1]
    exact q
  have T0 : TK f n τ ρ (jx_i (opn τ f a n) 5 6 (nI (a + 1))) (jx_i (rop ρ f a) 106 40 (nI (a + 1))) := by
    have hf40 : f < 40 := by omega
    have O : ∀ k, (([126, 127, 128, 129, 130, 131, 132, 133, 137, 134, 135].contains k = false ∧ rrN.contains k = false)) → ∀ σ j v, TK f n τ ρ τ σ → TK f n τ ρ τ (jx_i σ k j v) := fun k hk σ j v q => TK_i q (Or.inr (Or.inr (Or.inr hk)))
    have a1 : TK f n τ ρ τ (jx_i (rop ρ f a) 106 40 (nI (a + 1))) := by
      unfold rop
      refine O 106 (by decide) _ _ _ (O 106 (by decide) _ _ _ (O 106 (by decide) _ _ _ (O 106 (by decide) _ _ _ (O 106 (by decide) _ _ _ (O 106 (by decide) _ _ _ (TK_i (TK_i (TK_i TK_refl (Or.inl ⟨by decide, rfl⟩)) (Or.inl ⟨by decide, rfl⟩)) (Or.inl ⟨by decide, rfl⟩)))))))
    unfold opn
    exact TK_f (TK_f (TK_c hf40 (by omega) (TK_c hf40 (by omega) (TK_c hf40 (by omega) (TK_c hf40 (by omega) (TK_c hf40 (by omega) (TK_c hf40 (by omega) (TK_c hf40 (by omega) (TK_f (TK_f a1 (Or.inl rfl)) (Or.inl rfl)) (Or.inl ⟨by decide, rfl⟩)) (Or.inl ⟨by decide, rfl⟩)) (Or.inl ⟨by decide, rfl⟩)) (Or.inl ⟨by decide, rfl⟩)) (Or.inl ⟨by decide, rfl⟩)) (Or.inl ⟨by decide, rfl⟩)) (Or.inl ⟨by decide, rfl⟩)) (Or.inr (Or.inr (Or.inl rfl)))) (Or.inl rfl)
  have q41 : (jx_i (opn τ f a n) 5 6 (nI (a + 1))).1 41 f = nI a := by unfold opn; simp (disch := first | assumption | decide | omega) only [nI_lit, cT_lt, cF_lt, cT_le, cF_le, cT_eq, cF_eq, nF_le, mF_eq, mG_eq, mT_lt, eq_self, nI_clamp, nI_add, Nat.add_zero, nI_sub, s_i_ne, s_i_eq, s_i_2, s_l_1, s_l_ne, s_l_eq, s_p_ne, s_p_eq, s_p_2, s_q_1, s_q_ne, s_q_eq, u_ne, u_eq, v_ne, v_eq, w_ne, w_eq, jI_at_in, jL_at_in, false_or, or_false, true_or, or_true, true_and, and_true, false_and, and_false, not_true_eq_false, not_false_eq_true, ↓reduceIte, Option.bind_some, Option.map_some]
  have q49 : (jx_i (opn τ f a n) 5 6 (nI (a + 1))).1 49 f = nI (n + 1) := by unfold opn; simp (disch := first | assumption | decide | omega) only [nI_lit, cT_lt, cF_lt, cT_le, cF_le, cT_eq, cF_eq, nF_le, mF_eq, mG_eq, mT_lt, eq_self, nI_clamp, nI_add, Nat.add_zero, nI_sub, s_i_ne, s_i_eq, s_i_2, s_l_1, s_l_ne, s_l_eq, s_p_ne, s_p_eq, s_p_2, s_q_1, s_q_ne, s_q_eq, u_ne, u_eq, v_ne, v_eq, w_ne, w_eq, jI_at_in, jL_at_in, false_or, or_false, true_or, or_true, true_and, and_true, false_and, and_false, not_true_eq_false, not_false_eq_true, ↓reduceIte, Option.bind_some, Option.map_some]
  have q410 : (jx_i (opn τ f a n) 5 6 (nI (a + 1))).1 4 10 = nI (f + 1) := by unfold opn; simp (disch := first | assumption | decide | omega) only [nI_lit, cT_lt, cF_lt, cT_le, cF_le, cT_eq, cF_eq, nF_le, mF_eq, mG_eq, mT_lt, eq_self, nI_clamp, nI_add, Nat.add_zero, nI_sub, s_i_ne, s_i_eq, s_i_2, s_l_1, s_l_ne, s_l_eq, s_p_ne, s_p_eq, s_p_2, s_q_1, s_q_ne, s_q_eq, u_ne, u_eq, v_ne, v_eq, w_ne, w_eq, jI_at_in, jL_at_in, false_or, or_false, true_or, or_true, true_and, and_true, false_and, and_false, not_true_eq_false, not_false_eq_true, ↓reduceIte, Option.bind_some, Option.map_some]
  have q126 : (jx_i (rop ρ f a) 106 40 (nI (a + 1))).1 126 f = nI a := by unfold rop; simp (disch := first | assumption | decide | omega) only [nI_lit, cT_lt, cF_lt, cT_le, cF_le, cT_eq, cF_eq, nF_le, mF_eq, mG_eq, mT_lt, eq_self, nI_clamp, nI_add, Nat.add_zero, nI_sub, s_i_ne, s_i_eq, s_i_2, s_l_1, s_l_ne, s_l_eq, s_p_ne, s_p_eq, s_p_2, s_q_1, s_q_ne, s_q_eq, u_ne, u_eq, v_ne, v_eq, w_ne, w_eq, jI_at_in, jL_at_in, false_or, or_false, true_or, or_true, true_and, and_true, false_and, and_false, not_true_eq_false, not_false_eq_true, ↓reduceIte, Option.bind_some, Option.map_some]
  have q130 : (jx_i (rop ρ f a) 106 40 (nI (a + 1))).1 130 f = 0 := by unfold rop; simp (disch := first | assumption | decide | omega) only [nI_lit, cT_lt, cF_lt, cT_le, cF_le, cT_eq, cF_eq, nF_le, mF_eq, mG_eq, mT_lt, eq_self, nI_clamp, nI_add, Nat.add_zero, nI_sub, s_i_ne, s_i_eq, s_i_2, s_l_1, s_l_ne, s_l_eq, s_p_ne, s_p_eq, s_p_2, s_q_1, s_q_ne, s_q_eq, u_ne, u_eq, v_ne, v_eq, w_ne, w_eq, jI_at_in, jL_at_in, false_or, or_false, true_or, or_true, true_and, and_true, false_and, and_false, not_true_eq_false, not_false_eq_true, ↓reduceIte, Option.bind_some, Option.map_some]
  rcases fun_params (ta := a) 8 0 (a + 1) [] _ _ 100000000 100000000 (by omega) (by omega) (by omega) p5 rfl par0 (fun j hj => absurd hj (by omega)) (by omega) with ⟨τ', ρ', e1, e2, e3⟩ | ⟨p, a', sc', τ', ρ', e1, e2, e3, e4, e5, e6, e7, e8, e9, e10, e11, e12, e13⟩
  · exact ⟨τ', ρ', hcl _ e1, hrf _ e2, Or.inl e3⟩
  · obtain ⟨τ2, ρ2, u1, u2, u3⟩ := fun_body e4 e5 e1
    refine ⟨τ2, ρ2, hcl _ (e2.trans u1), hrf _ (e3.trans u2), ?_⟩
    rcases u3 with u3 | ⟨a2, n2, b, l, G2, w1, w2, w3, w4, w5, w6, w7, w8, w9, w10, w11, w12⟩
    · exact Or.inl u3
    · have hs : jx_i τ2 4 10 (nI (f + 1)) = τ2 := by
        have := jx_i_self (σ := τ2) (k := 4) (j := 10)
        rw [w3, e12, q410] at this
        exact this
      rw [hs] at w2
      refine Or.inr ⟨by omega, a2, n2, G2, by omega, w4, w2, ⟨p, b, l, w5, ?_, ?_, hac, hk, by omega, ?_, ?_, TkB_mono e6 (by omega) w12⟩, TK_trans (TK_trans T0 e7 (Nat.le_refl _)) w8 (Nat.le_refl _), w7⟩
      · rw [w9, e8]; exact q41
      · rw [w11, e10]; exact q126
      · rw [w10, e9]; exact q49
      · rw [w6, e11, q130, show n2 - 1 + 1 - n = n2 - n by omega]
        exact Int32.zero_add _
