/-! READER, 16: terms and sums. -/
theorem passSign_stop {τ τ1 : jx_S} {kc i : Nat} (k1 : v_cRea_kind τ = nI kc) (hk : 1 ≤ kc) (hk2 : kc < 100) (hi : i = 10) (s1 : p_cRea_tell (nI 3) τ = some τ1) (g1 : τ1.1 1 0 ≠ 0) : p_cRea_passSign (nI i) τ = some (nI kc, τ1) := by
  unfold p_cRea_passSign p_cRea_passSign_16
  rw [hi, if_neg (by decide), show p_cRea_tell (3 : Int32) τ = some τ1 from s1, Option.bind_some, k1, told_pass g1 (nI_ne0 (by omega) (by omega)), Option.bind_some]
theorem passSign_ok {τ τ1 : jx_S} {kc i : Nat} (k1 : v_cRea_kind τ = nI kc) (p4 : p_cRea_pass (nI kc) τ = some τ1) (hi : i < 10) : p_cRea_passSign (nI i) τ = some (nI kc, τ1) := by
  unfold p_cRea_passSign p_cRea_passSign_16
  rw [if_pos (show ¬ nI i = (10 : Int32) from fun q => by have := (nI_eq (b := 10) (by omega) (by omega)).mp q; omega), k1, p4, Option.bind_some]
def termF (rec : Int32 → jx_S → Option (Int32 × jx_S)) : Int32 × Int32 × Int32 × jx_S → Option ((Int32 × Int32 × Int32 × jx_S) ⊕ (Int32 × jx_S)) := fun s => p_cRea_readTerm_8_s rec s.1 s.2.1 s.2.2.1 (s.2.2.2)
theorem ro13_no {i a k : Nat} {y : Int32} {σ : jx_S} (h40 : σ.1 106 40 = nI a) (ha : a < 1202) (h8 : σ.1 108 a = nI k) (hk : k < 100) (h1 : k ≠ 25) (h2 : k ≠ 26) : p_r_readOne (nI 13) (nI i) y σ = some σ := by
  unfold p_r_readOne p_r_readMore p_r_readMore_79 p_r_readMore_90 p_r_readMore_113 p_r_readMore_137
  simp (disch := first | assumption | decide | omega) only [h40, h8, ob_id, nI_lit, cT_lt, cF_lt, cT_le, cF_le, cT_eq, cF_eq, nF_le, mF_eq, mG_eq, mT_lt, eq_self, nI_clamp, nI_add, Nat.add_zero, nI_sub, s_i_ne, s_i_eq, s_i_2, s_l_1, s_l_ne, s_l_eq, s_p_ne, s_p_eq, s_p_2, s_q_1, s_q_ne, s_q_eq, u_ne, u_eq, v_ne, v_eq, w_ne, w_eq, jI_at_in, jL_at_in, false_or, or_false, true_or, or_true, true_and, and_true, false_and, and_false, not_true_eq_false, not_false_eq_true, ↓reduceIte, Option.bind_some, Option.map_some]
theorem ro13_go {i a k : Nat} {y : Int32} {σ : jx_S} (h40 : σ.1 106 40 = nI a) (ha : a < 1202) (h8 : σ.1 108 a = nI k) (hk : k < 100) (h1 : k = 25 ∨ k = 26) (hi : i < 10) : p_r_readOne (nI 13) (nI i) y σ = p_r_readMore_155 (nI 13) (nI i) (nI 0) σ := by
  unfold p_r_readOne p_r_readMore p_r_readMore_79 p_r_readMore_90 p_r_readMore_113 p_r_readMore_137 p_r_readMore_140
  rcases h1 with h1 | h1 <;> subst h1 <;> simp (disch := first | assumption | decide | omega) only [h40, h8, ob_id, nI_lit, cT_lt, cF_lt, cT_le, cF_le, cT_eq, cF_eq, nF_le, mF_eq, mG_eq, mT_lt, eq_self, nI_clamp, nI_add, Nat.add_zero, nI_sub, s_i_ne, s_i_eq, s_i_2, s_l_1, s_l_ne, s_l_eq, s_p_ne, s_p_eq, s_p_2, s_q_1, s_q_ne, s_q_eq, u_ne, u_eq, v_ne, v_eq, w_ne, w_eq, jI_at_in, jL_at_in, false_or, or_false, true_or, or_true, true_and, and_true, false_and, and_false, not_true_eq_false, not_false_eq_true, ↓reduceIte, Option.bind_some, Option.map_some]
theorem ro13_stop {i a k : Nat} {y : Int32} {σ σ1 : jx_S} (h40 : σ.1 106 40 = nI a) (ha : a < 1202) (h8 : σ.1 108 a = nI k) (hk : k < 100) (h1 : k = 25 ∨ k = 26) (hi : i = 10) (hs : p_r_stop (nI 3) (nI a) σ = some σ1) : p_r_readOne (nI 13) (nI i) y σ = p_r_readMore_155 (nI 13) (nI i) (nI 0) σ1 := by
  unfold p_r_readOne p_r_readMore p_r_readMore_79 p_r_readMore_90 p_r_readMore_113 p_r_readMore_137 p_r_readMore_140
  subst hi
  rcases h1 with h1 | h1 <;> subst h1 <;> simp (disch := first | assumption | decide | omega) only [h40, h8, hs, ob_id, nI_lit, cT_lt, cF_lt, cT_le, cF_le, cT_eq, cF_eq, nF_le, mF_eq, mG_eq, mT_lt, eq_self, nI_clamp, nI_add, Nat.add_zero, nI_sub, s_i_ne, s_i_eq, s_i_2, s_l_1, s_l_ne, s_l_eq, s_p_ne, s_p_eq, s_p_2, s_q_1, s_q_ne, s_q_eq, u_ne, u_eq, v_ne, v_eq, w_ne, w_eq, jI_at_in, jL_at_in, false_or, or_false, true_or, or_true, true_and, and_true, false_and, and_false, not_true_eq_false, not_false_eq_true, ↓reduceIte, Option.bind_some, Option.map_some]
theorem term_loop {E : jEn} {f nf : Nat} {sc : List Nat} {t dn dep : Nat} {rec : Int32 → jx_S → Option (Int32 × jx_S)} {x1 : Int32} {a0 n0 l0 : Nat} {G0 : jGh} {τ0 ρ0 τ1 ρ1 : jx_S} (hrec : RecOK E f nf dep rec) (hx1 : x1 + 1 = nI dep) (ht : t + 5 + 14 * (31 - dep) ≤ 3900) (hdp : 1 ≤ dep ∧ dep ≤ 30) (hK0 : KP f n0 l0 sc.length t dn τ0 ρ0 τ1 ρ1) (h130_0 : ρ1.1 130 f = ρ0.1 130 f) (hsc : ∀ s, s ∈ sc → s < l0) (hdn0 : dn ≤ n0) (hna0 : n0 ≤ a0) :
    ∀ w i a n l G τ ρ N, i + w = 10 → w + 3 < N → DoneT E f nf a0 n0 l0 sc G0 t (t + 1) dn dep τ1 ρ1 a n l G τ ρ → ρ.1 138 t = nI 13 → ρ.1 139 t = nI i →
    ∃ v τ' k ρ', jx_loop N (termF rec) (x1, nI n, nI i, τ) = some (v, τ') ∧ RT f k ρ ρ' ∧ ((k ≤ 20 * (eC E - a) + 6 ∧ ∃ t' s x, FR t' s x τ' ρ') ∨ ∃ a' n' l' G', k ≤ 20 * (a' - a) + 1 ∧ v = nI n' ∧ a ≤ a' ∧ Done E f nf a0 n0 l0 sc G0 t dn dep τ0 ρ0 a' n' l' G' τ' ρ') := by
  intro w
  induction w with
  | zero =>
    intro i a n l G τ ρ N hi hN hD h138 h139
    have h := hD.2.2.2.2.1
    have hb := PR_bounds h
    obtain ⟨hP, hKp, h130p⟩ := PR_pop h
    have hB := h.2.2.1
    obtain ⟨kc, k1, k2, k3, k4, k5, k6⟩ := kind_ne hP
    obtain ⟨N, rfl⟩ : ∃ M, N = M + 1 := ⟨N - 1, by omega⟩
    by_cases hs : eK E a = 25 ∨ eK E a = 26
    · obtain ⟨N, rfl⟩ : ∃ M, N = M + 1 := ⟨N - 1, by omega⟩
      obtain ⟨s1, s2, s3⟩ := stop_both (nI 3) (by decide) hP
      have q := ro13_stop (y := ρ.1 140 t) k3 k4 k2 (by omega) hs (show i = 10 by omega) s2
      obtain ⟨g1, g2, g3, g4, g5, g6, g7, g8⟩ := s3
      have ex : ∃ ρ', p_r_readMore_155 (nI 13) (nI i) (nI 0) (jx_i (rtell (jx_i ρ 106 45 (nI t)) (nI 3) (nI (eP E a))) 106 41 0) = some ρ' ∧ ρ'.1 106 41 = 0 ∧ ρ'.1 106 4 = nI 3 ∧ ρ'.1 106 5 = nI (eP E a) ∧ ρ'.1 106 45 = nI (t + 3) ∧ ρ'.1 106 52 = nI sc.length ∧ ρ'.1 106 40 = nI (a + 1) := by
        generalize jx_i (rtell (jx_i ρ 106 45 (nI t)) (nI 3) (nI (eP E a))) 106 41 0 = σ at *
        have c1 : (ctell τ (nI 3) (nI (eP E a))).1 1 0 = nI 3 := by unfold ctell; simp (disch := first | assumption | decide | omega) only [nI_lit, cT_lt, cF_lt, cT_le, cF_le, cT_eq, cF_eq, nF_le, mF_eq, mG_eq, mT_lt, eq_self, nI_clamp, nI_add, Nat.add_zero, nI_sub, s_i_ne, s_i_eq, s_i_2, s_l_1, s_l_ne, s_l_eq, s_p_ne, s_p_eq, s_p_2, s_q_1, s_q_ne, s_q_eq, u_ne, u_eq, v_ne, v_eq, w_ne, w_eq, jI_at_in, jL_at_in, false_or, or_false, true_or, or_true, true_and, and_true, false_and, and_false, not_true_eq_false, not_false_eq_true, ↓reduceIte, Option.bind_some, Option.map_some]
        have c2 : (ctell τ (nI 3) (nI (eP E a))).1 1 1 = nI (eP E a) := by unfold ctell; simp (disch := first | assumption | decide | omega) only [nI_lit, cT_lt, cF_lt, cT_le, cF_le, cT_eq, cF_eq, nF_le, mF_eq, mG_eq, mT_lt, eq_self, nI_clamp, nI_add, Nat.add_zero, nI_sub, s_i_ne, s_i_eq, s_i_2, s_l_1, s_l_ne, s_l_eq, s_p_ne, s_p_eq, s_p_2, s_q_1, s_q_ne, s_q_eq, u_ne, u_eq, v_ne, v_eq, w_ne, w_eq, jI_at_in, jL_at_in, false_or, or_false, true_or, or_true, true_and, and_true, false_and, and_false, not_true_eq_false, not_false_eq_true, ↓reduceIte, Option.bind_some, Option.map_some]
        rw [c1] at g3
        rw [c2] at g4
        unfold p_r_readMore_155 p_r_readMore_188
        have w1 := q_r_later σ t (nI 13) (nI (i + 1)) (nI 0) g5 (by omega)
        have w2 := q_r_later (jx_i (jx_i (jx_i (jx_i σ 138 t (nI 13)) 139 t (nI (i + 1))) 140 t (nI 0)) 106 45 (nI (t + 1))) (t + 1) (nI 19) (nI a) (nI 0) (by simp (disch := first | assumption | decide | omega) only [nI_lit, cT_lt, cF_lt, cT_le, cF_le, cT_eq, cF_eq, nF_le, mF_eq, mG_eq, mT_lt, eq_self, nI_clamp, nI_add, Nat.add_zero, nI_sub, s_i_ne, s_i_eq, s_i_2, s_l_1, s_l_ne, s_l_eq, s_p_ne, s_p_eq, s_p_2, s_q_1, s_q_ne, s_q_eq, u_ne, u_eq, v_ne, v_eq, w_ne, w_eq, jI_at_in, jL_at_in, false_or, or_false, true_or, or_true, true_and, and_true, false_and, and_false, not_true_eq_false, not_false_eq_true, ↓reduceIte, Option.bind_some, Option.map_some]) (by omega)
        have w3 := q_r_later (jx_i (jx_i (jx_i (jx_i (jx_i (jx_i (jx_i (jx_i σ 138 t (nI 13)) 139 t (nI (i + 1))) 140 t (nI 0)) 106 45 (nI (t + 1))) 138 (t + 1) (nI 19)) 139 (t + 1) (nI a)) 140 (t + 1) (nI 0)) 106 45 (nI (t + 1 + 1))) (t + 1 + 1) (nI 14) (nI 0) (nI 0) (by simp (disch := first | assumption | decide | omega) only [nI_lit, cT_lt, cF_lt, cT_le, cF_le, cT_eq, cF_eq, nF_le, mF_eq, mG_eq, mT_lt, eq_self, nI_clamp, nI_add, Nat.add_zero, nI_sub, s_i_ne, s_i_eq, s_i_2, s_l_1, s_l_ne, s_l_eq, s_p_ne, s_p_eq, s_p_2, s_q_1, s_q_ne, s_q_eq, u_ne, u_eq, v_ne, v_eq, w_ne, w_eq, jI_at_in, jL_at_in, false_or, or_false, true_or, or_true, true_and, and_true, false_and, and_false, not_true_eq_false, not_false_eq_true, ↓reduceIte, Option.bind_some, Option.map_some]) (by omega)
        have q40 : (jx_i (jx_i (jx_i (jx_i σ 138 t (nI 13)) 139 t (nI (i + 1))) 140 t (nI 0)) 106 45 (nI (t + 1))).1 106 40 = nI a := by simp (disch := first | assumption | decide | omega) only [g7, nI_lit, cT_lt, cF_lt, cT_le, cF_le, cT_eq, cF_eq, nF_le, mF_eq, mG_eq, mT_lt, eq_self, nI_clamp, nI_add, Nat.add_zero, nI_sub, s_i_ne, s_i_eq, s_i_2, s_l_1, s_l_ne, s_l_eq, s_p_ne, s_p_eq, s_p_2, s_q_1, s_q_ne, s_q_eq, u_ne, u_eq, v_ne, v_eq, w_ne, w_eq, jI_at_in, jL_at_in, false_or, or_false, true_or, or_true, true_and, and_true, false_and, and_false, not_true_eq_false, not_false_eq_true, ↓reduceIte, Option.bind_some, Option.map_some]
        simp (disch := first | assumption | decide | omega) only [w1, q40, w2, w3, nI_lit, cT_lt, cF_lt, cT_le, cF_le, cT_eq, cF_eq, nF_le, mF_eq, mG_eq, mT_lt, eq_self, nI_clamp, nI_add, Nat.add_zero, nI_sub, s_i_ne, s_i_eq, s_i_2, s_l_1, s_l_ne, s_l_eq, s_p_ne, s_p_eq, s_p_2, s_q_1, s_q_ne, s_q_eq, u_ne, u_eq, v_ne, v_eq, w_ne, w_eq, jI_at_in, jL_at_in, false_or, or_false, true_or, or_true, true_and, and_true, false_and, and_false, not_true_eq_false, not_false_eq_true, ↓reduceIte, Option.bind_some, Option.map_some]
        refine ⟨_, rfl, ?_, ?_, ?_, ?_, ?_, ?_⟩
        · simp (disch := first | assumption | decide | omega) only [g2, nI_lit, cT_lt, cF_lt, cT_le, cF_le, cT_eq, cF_eq, nF_le, mF_eq, mG_eq, mT_lt, eq_self, nI_clamp, nI_add, Nat.add_zero, nI_sub, s_i_ne, s_i_eq, s_i_2, s_l_1, s_l_ne, s_l_eq, s_p_ne, s_p_eq, s_p_2, s_q_1, s_q_ne, s_q_eq, u_ne, u_eq, v_ne, v_eq, w_ne, w_eq, jI_at_in, jL_at_in, false_or, or_false, true_or, or_true, true_and, and_true, false_and, and_false, not_true_eq_false, not_false_eq_true, ↓reduceIte, Option.bind_some, Option.map_some]
        · simp (disch := first | assumption | decide | omega) only [g3, nI_lit, cT_lt, cF_lt, cT_le, cF_le, cT_eq, cF_eq, nF_le, mF_eq, mG_eq, mT_lt, eq_self, nI_clamp, nI_add, Nat.add_zero, nI_sub, s_i_ne, s_i_eq, s_i_2, s_l_1, s_l_ne, s_l_eq, s_p_ne, s_p_eq, s_p_2, s_q_1, s_q_ne, s_q_eq, u_ne, u_eq, v_ne, v_eq, w_ne, w_eq, jI_at_in, jL_at_in, false_or, or_false, true_or, or_true, true_and, and_true, false_and, and_false, not_true_eq_false, not_false_eq_true, ↓reduceIte, Option.bind_some, Option.map_some]
        · simp (disch := first | assumption | decide | omega) only [g4, nI_lit, cT_lt, cF_lt, cT_le, cF_le, cT_eq, cF_eq, nF_le, mF_eq, mG_eq, mT_lt, eq_self, nI_clamp, nI_add, Nat.add_zero, nI_sub, s_i_ne, s_i_eq, s_i_2, s_l_1, s_l_ne, s_l_eq, s_p_ne, s_p_eq, s_p_2, s_q_1, s_q_ne, s_q_eq, u_ne, u_eq, v_ne, v_eq, w_ne, w_eq, jI_at_in, jL_at_in, false_or, or_false, true_or, or_true, true_and, and_true, false_and, and_false, not_true_eq_false, not_false_eq_true, ↓reduceIte, Option.bind_some, Option.map_some]
        · simp (disch := first | assumption | decide | omega) only [nI_lit, cT_lt, cF_lt, cT_le, cF_le, cT_eq, cF_eq, nF_le, mF_eq, mG_eq, mT_lt, eq_self, nI_clamp, nI_add, Nat.add_zero, nI_sub, s_i_ne, s_i_eq, s_i_2, s_l_1, s_l_ne, s_l_eq, s_p_ne, s_p_eq, s_p_2, s_q_1, s_q_ne, s_q_eq, u_ne, u_eq, v_ne, v_eq, w_ne, w_eq, jI_at_in, jL_at_in, false_or, or_false, true_or, or_true, true_and, and_true, false_and, and_false, not_true_eq_false, not_false_eq_true, ↓reduceIte, Option.bind_some, Option.map_some]
        · simp (disch := first | assumption | decide | omega) only [g6, nI_lit, cT_lt, cF_lt, cT_le, cF_le, cT_eq, cF_eq, nF_le, mF_eq, mG_eq, mT_lt, eq_self, nI_clamp, nI_add, Nat.add_zero, nI_sub, s_i_ne, s_i_eq, s_i_2, s_l_1, s_l_ne, s_l_eq, s_p_ne, s_p_eq, s_p_2, s_q_1, s_q_ne, s_q_eq, u_ne, u_eq, v_ne, v_eq, w_ne, w_eq, jI_at_in, jL_at_in, false_or, or_false, true_or, or_true, true_and, and_true, false_and, and_false, not_true_eq_false, not_false_eq_true, ↓reduceIte, Option.bind_some, Option.map_some]
        · simp (disch := first | assumption | decide | omega) only [g7, nI_lit, cT_lt, cF_lt, cT_le, cF_le, cT_eq, cF_eq, nF_le, mF_eq, mG_eq, mT_lt, eq_self, nI_clamp, nI_add, Nat.add_zero, nI_sub, s_i_ne, s_i_eq, s_i_2, s_l_1, s_l_ne, s_l_eq, s_p_ne, s_p_eq, s_p_2, s_q_1, s_q_ne, s_q_eq, u_ne, u_eq, v_ne, v_eq, w_ne, w_eq, jI_at_in, jL_at_in, false_or, or_false, true_or, or_true, true_and, and_true, false_and, and_false, not_true_eq_false, not_false_eq_true, ↓reduceIte, Option.bind_some, Option.map_some]
      obtain ⟨ρ', f1, f2, f3, f4, f5, f6, f7⟩ := ex
      have c1 : (ctell τ (nI 3) (nI (eP E a))).1 1 0 = nI 3 := by unfold ctell; simp (disch := first | assumption | decide | omega) only [nI_lit, cT_lt, cF_lt, cT_le, cF_le, cT_eq, cF_eq, nF_le, mF_eq, mG_eq, mT_lt, eq_self, nI_clamp, nI_add, Nat.add_zero, nI_sub, s_i_ne, s_i_eq, s_i_2, s_l_1, s_l_ne, s_l_eq, s_p_ne, s_p_eq, s_p_2, s_q_1, s_q_ne, s_q_eq, u_ne, u_eq, v_ne, v_eq, w_ne, w_eq, jI_at_in, jL_at_in, false_or, or_false, true_or, or_true, true_and, and_true, false_and, and_false, not_true_eq_false, not_false_eq_true, ↓reduceIte, Option.bind_some, Option.map_some]
      have c2 : (ctell τ (nI 3) (nI (eP E a))).1 1 1 = nI (eP E a) := by unfold ctell; simp (disch := first | assumption | decide | omega) only [nI_lit, cT_lt, cF_lt, cT_le, cF_le, cT_eq, cF_eq, nF_le, mF_eq, mG_eq, mT_lt, eq_self, nI_clamp, nI_add, Nat.add_zero, nI_sub, s_i_ne, s_i_eq, s_i_2, s_l_1, s_l_ne, s_l_eq, s_p_ne, s_p_eq, s_p_2, s_q_1, s_q_ne, s_q_eq, u_ne, u_eq, v_ne, v_eq, w_ne, w_eq, jI_at_in, jL_at_in, false_or, or_false, true_or, or_true, true_and, and_true, false_and, and_false, not_true_eq_false, not_false_eq_true, ↓reduceIte, Option.bind_some, Option.map_some]
      refine ⟨0, ctell τ (nI 3) (nI (eP E a)), 1, ρ', ?_, RT_one hB.2.2.1 hB.2.2.2.2.2.2.2.2.1 (by omega) (by rw [h138, h139, q]; exact f1), Or.inl ⟨by omega, t + 3, sc.length, a + 1, g1, f2, by rw [f3, c1], by rw [f4, c2], f5, f6, f7, by omega, g8.2⟩⟩
      have hkc : kc = eK E a := by omega
      rw [jx_loop_inl (s1 := (x1, 0, nI (i + 1), ctell τ (nI 3) (nI (eP E a)))) (by
        show p_cRea_readTerm_8_s rec x1 (nI n) (nI i) τ = _
        unfold p_cRea_readTerm_8_s p_cRea_readTerm_32
        have e10 : i = 10 := by omega
        rw [k1, passSign_stop k1 (by omega) (by omega) e10 s1 g1, if_neg (show ¬ (10 : Int32) < nI i by rw [e10]; decide), Option.bind_some]
        rw [show p_cRea_readCall rec x1 (ctell τ (nI 3) (nI (eP E a))) = some (0, ctell τ (nI 3) (nI (eP E a))) from told_call g1 _, Option.bind_some, told_addNode g1, Option.bind_some, ← nI_succ, hkc]
        rcases hs with hs | hs <;> rw [hs] <;> rfl)]
      exact told_term8 g1 _ _ _ N
    · refine ⟨nI n, τ, 1, jx_i ρ 106 45 (nI t), ?_, RT_one hB.2.2.1 hB.2.2.2.2.2.2.2.2.1 (by omega) (by rw [h138, h139, ro13_no k3 k4 k2 (by omega) (fun q => hs (Or.inl q)) (fun q => hs (Or.inr q))]), Or.inr ⟨a, n, l, G, by omega, rfl, Nat.le_refl a, Done_wrap hD hK0 h130_0 (Nat.le_refl _) (Nat.le_refl _) hP hKp (by rw [h130p]) (Nat.le_refl _)⟩⟩
      refine jx_loop_out (X := some (nI n, τ)) ?_ N
      show p_cRea_readTerm_8_s rec x1 (nI n) (nI i) τ = _
      unfold p_cRea_readTerm_8_s
      simp (disch := first | assumption | decide | omega) only [k1, nI_lit, cT_lt, cF_lt, cT_le, cF_le, cT_eq, cF_eq, nF_le, mF_eq, mG_eq, mT_lt, eq_self, nI_clamp, nI_add, Nat.add_zero, nI_sub, s_i_ne, s_i_eq, s_i_2, s_l_1, s_l_ne, s_l_eq, s_p_ne, s_p_eq, s_p_2, s_q_1, s_q_ne, s_q_eq, u_ne, u_eq, v_ne, v_eq, w_ne, w_eq, jI_at_in, jL_at_in, false_or, or_false, true_or, or_true, true_and, and_true, false_and, and_false, not_true_eq_false, not_false_eq_true, ↓reduceIte, Option.bind_some, Option.map_some]
  | succ w ih =>
    intro i a n l G τ ρ N hi hN hD h138 h139
    have h := hD.2.2.2.2.1
    have hb := PR_bounds h
    obtain ⟨hP, hKp, h130p⟩ := PR_pop h
    have hB := h.2.2.1
    obtain ⟨kc, k1, k2, k3, k4, k5, k6⟩ := kind_ne hP
    obtain ⟨N, rfl⟩ : ∃ M, N = M + 1 := ⟨N - 1, by omega⟩
    by_cases hs : eK E a = 25 ∨ eK E a = 26
    · have hkc : kc = eK E a := by omega
      have q := ro13_go (y := ρ.1 140 t) k3 k4 k2 (by omega) hs (show i < 10 by omega)
      obtain ⟨l1, l2, l3, l4, l5, l6, l7⟩ := PR_ltr (nI 13) (nI (i + 1)) (nI 0) hP (by omega)
      obtain ⟨m1, m2, m3, m4, m5, m6, m7⟩ := PR_ltr (nI 19) (nI a) (nI 0) l2 (by omega)
      obtain ⟨o1, o2, o3, o4, o5, o6, o7⟩ := PR_ltr (nI 14) (nI 0) (nI 0) m2 (by omega)
      obtain ⟨p1, p2, p3, p4, p5, p6⟩ := pass_ok o2 (eK E a) rfl (by omega)
      have hst : p_r_readMore_155 (nI 13) (nI i) (nI 0) (jx_i ρ 106 45 (nI t)) = some (jx_i (ltr (ltr (ltr (jx_i ρ 106 45 (nI t)) t (nI 13) (nI (i + 1)) (nI 0)) (t + 1) (nI 19) (nI a) (nI 0)) (t + 1 + 1) (nI 14) (nI 0) (nI 0)) 106 40 (nI (a + 1))) := by
        have q40 := o2.2.2.1.2.2.2.1
        have q40b := l2.2.2.1.2.2.2.1
        unfold p_r_readMore_155 p_r_readMore_188
        simp (disch := first | assumption | decide | omega) only [l1, q40b, m1, o1, q40, nI_lit, cT_lt, cF_lt, cT_le, cF_le, cT_eq, cF_eq, nF_le, mF_eq, mG_eq, mT_lt, eq_self, nI_clamp, nI_add, Nat.add_zero, nI_sub, s_i_ne, s_i_eq, s_i_2, s_l_1, s_l_ne, s_l_eq, s_p_ne, s_p_eq, s_p_2, s_q_1, s_q_ne, s_q_eq, u_ne, u_eq, v_ne, v_eq, w_ne, w_eq, jI_at_in, jL_at_in, false_or, or_false, true_or, or_true, true_and, and_true, false_and, and_false, not_true_eq_false, not_false_eq_true, ↓reduceIte, Option.bind_some, Option.map_some]
      have hstep : RT f 1 ρ _ := RT_one hB.2.2.1 hB.2.2.2.2.2.2.2.2.1 (by omega) (by rw [h138, h139, q]; exact hst)
      generalize ltr (ltr (ltr (jx_i ρ 106 45 (nI t)) t (nI 13) (nI (i + 1)) (nI 0)) (t + 1) (nI 19) (nI a) (nI 0)) (t + 1 + 1) (nI 14) (nI 0) (nI 0) = ρ3 at *
      have KK : KP f n l sc.length t (dn + 1) τ ρ (jx_i τ 5 6 (nI (a + 1))) (jx_i ρ3 106 40 (nI (a + 1))) := KP_trans (KP_trans (KP_trans (KP_trans hKp l3 (Nat.le_refl _) (Nat.le_refl _) (Nat.le_refl _) (Nat.le_refl _) (Nat.le_refl _)) m3 (Nat.le_refl _) (Nat.le_refl _) (Nat.le_refl _) (by omega) (Nat.le_refl _)) o3 (Nat.le_refl _) (Nat.le_refl _) (Nat.le_refl _) (by omega) (Nat.le_refl _)) p6 (Nat.le_refl _) (Nat.le_refl _) (Nat.le_refl _) (by omega) (Nat.le_refl _)
      have i0 : (jx_i ρ3 106 40 (nI (a + 1))).1 138 t = nI 13 := by rw [s_i_ne (by decide), o3.2.2.2.1 138 (by decide) t (by omega), m3.2.2.2.1 138 (by decide) t (by omega)]; exact l5
      have i1 : (jx_i ρ3 106 40 (nI (a + 1))).1 139 t = nI (i + 1) := by rw [s_i_ne (by decide), o3.2.2.2.1 139 (by decide) t (by omega), m3.2.2.2.1 139 (by decide) t (by omega)]; exact l6
      have j0 : (jx_i ρ3 106 40 (nI (a + 1))).1 138 (t + 1) = nI 19 := by rw [s_i_ne (by decide), o3.2.2.2.1 138 (by decide) (t + 1) (by omega)]; exact m5
      have j1 : (jx_i ρ3 106 40 (nI (a + 1))).1 139 (t + 1) = nI a := by rw [s_i_ne (by decide), o3.2.2.2.1 139 (by decide) (t + 1) (by omega)]; exact m6
      have j2 : (jx_i ρ3 106 40 (nI (a + 1))).1 138 (t + 1 + 1) = nI 14 := by rw [s_i_ne (by decide)]; exact o5
      have q130 : (jx_i ρ3 106 40 (nI (a + 1))).1 130 f = ρ.1 130 f := by rw [s_i_ne (by decide), o4, m4, l4, h130p]
      obtain ⟨v2, τ2, e2, ρ4, y1, y2, y3⟩ := sim_call hrec hx1 p5 j2 (by omega) hdp
      have g6 := hP.2.1.2.2.1
      have hcl : ∀ r, p_cRea_addNode (nI (eK E a)) (nI a) 0 (nI n) v2 0 τ2 = some r → (termF rec) (x1, nI n, nI i, τ) = some (.inl (x1, r.1, nI (i + 1), r.2)) := by
        intro r q2
        unfold termF
        dsimp only
        unfold p_cRea_readTerm_8_s p_cRea_readTerm_32
        rw [passSign_ok (hkc ▸ k1) p4 (show i < 10 by omega), k1, hkc, if_neg (show ¬ (10 : Int32) < nI i from (nI_nlt (by omega) (by omega) : ¬ nI 10 < nI i)), Option.bind_some, y1, Option.bind_some, g6, q2, Option.bind_some, ← nI_succ]
        rcases hs with hs | hs <;> rw [hs] <;> rfl
      rcases y3 with ⟨y3, t', s, x, y4⟩ | ⟨a4, n4, l4, G4, y3, y4, hD2⟩
      · obtain ⟨N, rfl⟩ : ∃ M, N = M + 1 := ⟨N - 1, by omega⟩
        refine ⟨0, τ2, 1 + e2, ρ4, ?_, RT_trans hstep y2, Or.inl ⟨by omega, t', s, x, y4⟩⟩
        rw [jx_loop_inl (hcl (0, τ2) (told_addNode y4.1 _ _ _ _ _ _))]
        exact told_term8 y4.1 _ _ _ N
      · have hP4 := hD2.2.2.2.2.1
        have hK4 := hD2.2.2.2.2.2.1
        have dlt2 := hD2.1
        have dlt := hD.1
        obtain ⟨hP5, hK5, h1305⟩ := PR_pop hP4
        have hb4 := PR_bounds hP5
        have cnt1 := hD.2.2.1
        have cnt2 := hD2.2.2.1
        have hn1 := hD.2.1
        have hn2 := hD2.2.1
        have hl1 := hD.2.2.2.1
        have hl2 := hD2.2.2.2.1
        have hB4 := hP4.2.2.1
        obtain ⟨τ5, ρ6, G5, z1, z2, z3, z4⟩ := two_done (t := t) (tp := t + 1) (a := a0) (tk := a) (eK E a) (KP_refl (f := f) (n := n0) (l := l0) (s := sc.length) (t := t) (dn := dn) (τ := τ1) (ρ := ρ1)) rfl hD (Nat.le_refl _) KK q130 hD2 (by omega) hP5 (KP_trans (n' := n4) (l' := l4) (s' := sc.length) (t' := t + 1) (dn' := dn + 2) KP_refl hK5 (Nat.le_refl _) (Nat.le_refl _) (Nat.le_refl _) (Nat.le_succ t) (Nat.le_refl _)) (by rw [h1305]) p2 rfl (by omega) (by omega) (by omega) hsc hdn0 hna0
        have w138 : ρ6.1 138 t = nI 13 := by rw [z4 (t + 1) 138 (by decide) t (by omega), s_i_ne (by decide), hK4.2.2.2.1 138 (by decide) t (by omega)]; exact i0
        have w139 : ρ6.1 139 t = nI (i + 1) := by rw [z4 (t + 1) 139 (by decide) t (by omega), s_i_ne (by decide), hK4.2.2.2.1 139 (by decide) t (by omega)]; exact i1
        have i4 : ρ4.1 138 (t + 1) = nI 19 := by rw [hK4.2.2.2.1 138 (by decide) (t + 1) (by omega)]; exact j0
        have i5 : ρ4.1 139 (t + 1) = nI a := by rw [hK4.2.2.2.1 139 (by decide) (t + 1) (by omega)]; exact j1
        have hstep2 : RT f 1 ρ4 ρ6 := RT_one hB4.2.2.1 hB4.2.2.2.2.2.2.2.2.1 (by omega) (by rw [i4, i5, ro19 E a _ _ hP5.2.2.1.1 p2 hb.1]; exact z2)
        obtain ⟨v, τ', k, ρ', y5, y6, y7⟩ := ih (i + 1) a4 (n4 + 1) l4 G5 τ5 ρ6 N (by omega) (by omega) z3 w138 w139
        refine ⟨v, τ', 1 + e2 + 1 + k, ρ', ?_, RT_trans (RT_trans (RT_trans hstep y2) hstep2) y6, ?_⟩
        · rw [jx_loop_inl (hcl (nI (n4 + 1), τ5) (by rw [y4]; exact z1))]
          exact y5
        · rcases y7 with ⟨y7, y8⟩ | ⟨a', n', l', G', y7, y8, y9, y10⟩
          · exact Or.inl ⟨by omega, y8⟩
          · exact Or.inr ⟨a', n', l', G', by omega, y8, by omega, y10⟩
    · refine ⟨nI n, τ, 1, jx_i ρ 106 45 (nI t), ?_, RT_one hB.2.2.1 hB.2.2.2.2.2.2.2.2.1 (by omega) (by rw [h138, h139, ro13_no k3 k4 k2 (by omega) (fun q => hs (Or.inl q)) (fun q => hs (Or.inr q))]), Or.inr ⟨a, n, l, G, by omega, rfl, Nat.le_refl a, Done_wrap hD hK0 h130_0 (Nat.le_refl _) (Nat.le_refl _) hP hKp (by rw [h130p]) (Nat.le_refl _)⟩⟩
      refine jx_loop_out (X := some (nI n, τ)) ?_ N
      show p_cRea_readTerm_8_s rec x1 (nI n) (nI i) τ = _
      unfold p_cRea_readTerm_8_s
      simp (disch := first | assumption | decide | omega) only [k1, nI_lit, cT_lt, cF_lt, cT_le, cF_le, cT_eq, cF_eq, nF_le, mF_eq, mG_eq, mT_lt, eq_self, nI_clamp, nI_add, Nat.add_zero, nI_sub, s_i_ne, s_i_eq, s_i_2, s_l_1, s_l_ne, s_l_eq, s_p_ne, s_p_eq, s_p_2, s_q_1, s_q_ne, s_q_eq, u_ne, u_eq, v_ne, v_eq, w_ne, w_eq, jI_at_in, jL_at_in, false_or, or_false, true_or, or_true, true_and, and_true, false_and, and_false, not_true_eq_false, not_false_eq_true, ↓reduceIte, Option.bind_some, Option.map_some]
theorem sim_term {E : jEn} {f nf a n l : Nat} {sc : List Nat} {G : jGh} {t dn dep : Nat} {τ ρ : jx_S} {rec : Int32 → jx_S → Option (Int32 × jx_S)} {x1 : Int32} (hrec : RecOK E f nf dep rec) (hx1 : x1 + 1 = nI dep) (h : PR E f nf a n l sc G (t + 1) dn dep τ ρ) (h138 : ρ.1 138 t = nI 12) (ht : t + 5 + 14 * (31 - dep) ≤ 3900) (hdp : 1 ≤ dep ∧ dep ≤ 30) : SimO E f nf a n l sc G t dn dep τ ρ 12 6 (p_cRea_readTerm rec x1 τ) := by
  have hb := PR_bounds h
  obtain ⟨hP, hK, h130⟩ := PR_pop h
  have hB := h.2.2.1
  obtain ⟨l1, l2, l3, l4, l5, l6, l7⟩ := PR_ltr (nI 13) (nI 0) (nI 0) hP (by omega)
  obtain ⟨m1, m2, m3, m4, m5, m6, m7⟩ := PR_ltr (nI 14) (nI 0) (nI 0) l2 (by omega)
  have hst : p_r_readOne (ρ.1 138 t) (ρ.1 139 t) (ρ.1 140 t) (jx_i ρ 106 45 (nI t)) = some (ltr (ltr (jx_i ρ 106 45 (nI t)) t (nI 13) (nI 0) (nI 0)) (t + 1) (nI 14) (nI 0) (nI 0)) := by
    rw [h138]
    unfold p_r_readOne p_r_readMore
    simp (disch := first | assumption | decide | omega) only [l1, m1, nI_lit, cT_lt, cF_lt, cT_le, cF_le, cT_eq, cF_eq, nF_le, mF_eq, mG_eq, mT_lt, eq_self, nI_clamp, nI_add, Nat.add_zero, nI_sub, s_i_ne, s_i_eq, s_i_2, s_l_1, s_l_ne, s_l_eq, s_p_ne, s_p_eq, s_p_2, s_q_1, s_q_ne, s_q_eq, u_ne, u_eq, v_ne, v_eq, w_ne, w_eq, jI_at_in, jL_at_in, false_or, or_false, true_or, or_true, true_and, and_true, false_and, and_false, not_true_eq_false, not_false_eq_true, ↓reduceIte, Option.bind_some, Option.map_some]
  have hstep : RT f 1 ρ _ := RT_one hB.2.2.1 hB.2.2.2.2.2.2.2.2.1 (by omega) hst
  have i0 := m3.2.2.2.1 138 (by decide) t (by omega)
  have i1 := m3.2.2.2.1 139 (by decide) t (by omega)
  rw [l5] at i0
  rw [l6] at i1
  have KK := KP_trans (KP_trans hK l3 (Nat.le_refl _) (Nat.le_refl _) (Nat.le_refl _) (Nat.le_refl _) (Nat.le_refl _)) m3 (Nat.le_refl _) (Nat.le_refl _) (Nat.le_refl _) (Nat.le_succ t) (Nat.le_refl _)
  have q130 := m4.trans (l4.trans h130)
  generalize ltr (ltr (jx_i ρ 106 45 (nI t)) t (nI 13) (nI 0) (nI 0)) (t + 1) (nI 14) (nI 0) (nI 0) = ρ2 at *
  obtain ⟨v1, τ1, e1, ρ3, z1, z2, z3⟩ := sim_call hrec hx1 m2 m5 (by omega) hdp
  have hcl : ∀ r, jx_loop 100000000 (termF rec) (x1, v1, 0, τ1) = some r → p_cRea_readTerm rec x1 τ = some r := by
    intro r q
    unfold p_cRea_readTerm p_cRea_readTerm_8
    rw [z1, Option.bind_some]
    exact q
  rcases z3 with ⟨z3, t', s, x, z4⟩ | ⟨a1, n1, l1', G1, z3, z4, hD⟩
  · exact ⟨v1, τ1, 1 + e1, ρ3, hcl _ (told_term8 z4.1 _ _ _ 99999999), RT_trans hstep z2, Or.inl ⟨by omega, t', s, x, z4⟩⟩
  · have hD' : DoneT E f nf a n l sc G t (t + 1) dn dep τ ρ2 a1 n1 l1' G1 τ1 ρ3 := Done_wrap hD KP_refl rfl (Nat.le_refl _) (Nat.le_succ t) hD.2.2.2.2.1 KP_refl rfl (Nat.le_refl _)
    have hKD := hD.2.2.2.2.2.1
    have hb1 := PR_bounds hD.2.2.2.2.1
    have dlt := hD.1
    obtain ⟨v, τ', k, ρ', y5, y6, y7⟩ := term_loop hrec hx1 ht hdp KK (by rw [q130]) (fun s q => sc_lt sc hP.2.2.2.2.1 s q) hb.2.2.2.2.2.2.2 hb.2.2.1 10 0 a1 n1 l1' G1 τ1 ρ3 100000000 (by omega) (by omega) hD' (by rw [hKD.2.2.2.1 138 (by decide) t (by omega)]; exact i0) (by rw [hKD.2.2.2.1 139 (by decide) t (by omega)]; exact i1)
    refine ⟨v, τ', 1 + e1 + k, ρ', hcl _ (by rw [z4]; exact y5), RT_trans (RT_trans hstep z2) y6, ?_⟩
    rcases y7 with ⟨y7, y8⟩ | ⟨a', n', l', G', y7, y8, y9, y10⟩
    · exact Or.inl ⟨by omega, y8⟩
    · exact Or.inr ⟨a', n', l', G', by omega, y8, y10⟩
