/-! READER, 30: a whole text. -/
theorem FunOK_keep {E : jEn} {G G' : jGh} {f n : Nat} {τ ρ τ' ρ' : jx_S} (hT : TK f n τ ρ τ' ρ') (hG : ∀ j, j < n → G' j = G j) {g nf r ta te : Nat} (hg : g < f) (hr : r < n) (hn : n < 2000) (h : FunOK E G τ ρ g nf r ta te) : FunOK E G' τ' ρ' g nf r ta te := by
  obtain ⟨h1, h2, h3, h4, h5, h6, h7⟩ := hT
  obtain ⟨p, b, l, ⟨⟨f1, f2, f3⟩, f4, f5, f6, f7, f8, f9, f10, f11, f12, f13, f14, f15, f16, f17, R1, R2, R3, R4, R5, R6, R7⟩, k1, k2, k3, k4, k5, k6, k7, k8⟩ := h
  have c := fun r hr => h1 g (by omega) r hr
  have d := fun r hr => h2 g (by omega) r hr
  have gr : G' r = G r := hG r hr
  refine ⟨p, b, l, ⟨⟨by rw [c 43 (by decide)]; exact f1, by rw [d 127 (by decide)]; exact f2, fun j hj => ?_⟩, f4, f5, f6, by rw [c 45 (by decide)]; exact f7, by rw [d 128 (by decide)]; exact f8, f9, by rw [c 47 (by decide)]; exact f10, by rw [d 129 (by decide)]; exact f11, by rw [d 132 (by decide)]; exact f12, by rw [c 51 (by decide)]; exact f13, by rw [d 131 (by decide)]; exact f14, f15, fun i hi => ?_, fun k kk1 kk2 => ?_, ?_, ?_, ?_, ?_, ?_, ?_, ?_⟩, by rw [c 41 (by decide)]; exact k1, by rw [d 126 (by decide)]; exact k2, k3, k4, k5, by rw [c 49 (by decide)]; exact k6, ?_, TkB_mono k8 (Nat.le_refl _) (fun j hj => h3 55 (by decide) _ (by omega))⟩
  · obtain ⟨tk, w1, w2, w3, w4, w5⟩ := f3 j hj
    exact ⟨tk, by rw [h3 55 (by decide) _ (by omega)]; exact w1, by rw [h5 134 (by decide) _ (by omega)]; exact w2, w3, w4, by rw [h5 135 (by decide) _ (by omega), h3 57 (by decide) _ (by omega)]; exact w5⟩
  · obtain ⟨ty, w1, w2, w3, w4⟩ := f16 i hi
    exact ⟨ty, w1, by rw [h3 57 (by decide) _ (by omega)]; exact w2, by rw [h4 137 (by decide) _ (by omega)]; exact w3, by rw [h3 59 (by decide) _ (by omega)]; exact w4⟩
  · obtain ⟨u1, u2⟩ := f17 k kk1 kk2
    exact ⟨NodeOK_keep (NK_rows h6 h7) hG (by omega) hn u1, by unfold gD; rw [hG k (by omega)]; exact u2.1, CsT_keep u2.2 (fun j hj => h3 57 (by decide) _ (by omega)) (h7 112 (by decide) _ (by omega)) (h7 117 (by decide) _ (by omega)) (Nat.le_refl _)⟩
  · rw [h6 29 (by decide) _ (by omega)]; exact R1
  · rw [h6 31 (by decide) _ (by omega)]; exact R2
  · rw [h7 121 (by decide) _ hr]; exact R3
  · rw [h7 122 (by decide) _ hr]; exact R4
  · unfold gV; rw [gr]; exact R5
  · unfold gB; rw [gr]; exact R6
  · unfold gD; rw [gr]; exact R7
  · rw [d 130 (by decide), k7, letc_congr (g := ρ.1 112) (g' := ρ'.1 112) _ (fun j hj => h7 112 (by decide) _ (by omega))]
/-- all functions of a text -/
def TreeOK (E : jEn) (G : jGh) (F N : Nat) (nS tS : Nat → Nat) (τ ρ : jx_S) : Prop := F ≤ 40 ∧ N ≤ 1200 ∧ nS 0 = 0 ∧ nS F = N ∧ tS F ≤ eC E ∧ ∀ g, g < F → nS g < nS (g + 1) ∧ nS (g + 1) ≤ N ∧ tS (g + 1) ≤ tS F ∧ FunOK E G τ ρ g (nS g) (nS (g + 1) - 1) (tS g) (tS (g + 1))
def prgC : Int32 × jx_S → Option ((Int32 × jx_S) ⊕ jx_S) := fun s => p_cRea_readProgram_23_s s.1 (s.2)
def prgR : jx_S → Option (jx_S ⊕ (Int32 × jx_S)) := fun s => p_r_readAll_20_s (s)
theorem prog_loop {E : jEn} : ∀ w f a n G nS tS τ ρ N M, eC E - a ≤ w → w + 2 < N → w + 2 < M → PG E f a n τ ρ → TreeOK E G f n nS tS τ ρ → tS f = a →
    ∃ τ' b ρ', jx_loop N prgC (nI f, τ) = some τ' ∧ jx_loop M prgR ρ = some (b, ρ') ∧ ((b = 0 ∧ FX τ' ρ') ∨ (b = 1 ∧ ∃ F K G' nS' tS', PG E F (eC E) K τ' ρ' ∧ TreeOK E G' F K nS' tS' τ' ρ')) := by
  have stop : ∀ f a n G nS tS τ ρ N M, a = eC E → 0 < N → 0 < M → PG E f a n τ ρ → TreeOK E G f n nS tS τ ρ → ∃ τ' b ρ', jx_loop N prgC (nI f, τ) = some τ' ∧ jx_loop M prgR ρ = some (b, ρ') ∧ ((b = 0 ∧ FX τ' ρ') ∨ (b = 1 ∧ ∃ F K G' nS' tS', PG E F (eC E) K τ' ρ' ∧ TreeOK E G' F K nS' tS' τ' ρ')) := by
    intro f a n G nS tS τ ρ N M ha hN hM h hT
    subst ha
    obtain ⟨hE, hC, hR, ⟨t1, t2, t3, t4, t5⟩, ⟨r1, r2, r3, r4, r5⟩, g1, g2, g3⟩ := id h
    have hE1 := hE.1
    have hkd := q_kind hE hC t1 t2 g1
    have hor := eKc_or hE g1
    have r8 := (hR.2 (eC E) g1).1
    obtain ⟨N, rfl⟩ : ∃ K, N = K + 1 := ⟨N - 1, by omega⟩
    obtain ⟨M, rfl⟩ : ∃ K, M = K + 1 := ⟨M - 1, by omega⟩
    refine ⟨τ, 1, ρ, jx_loop_out (X := some τ) ?_ N, jx_loop_out (X := some (1, ρ)) ?_ M, Or.inr ⟨rfl, f, n, G, nS, tS, h, hT⟩⟩
    · show p_cRea_readProgram_23_s (nI f) τ = _
      unfold p_cRea_readProgram_23_s
      rw [hkd, show eKc E (eC E) = 0 by omega, if_pos (show nI 0 = 0 from rfl)]
      split <;> rfl
    · show p_r_readAll_20_s ρ = _
      unfold p_r_readAll_20_s
      rw [r2, r3, if_neg (by decide), if_neg (nI_in (show eC E < 1202 by omega) (by omega)), nI_clamp (show eC E < 2 ^ 31 by omega), r8, hE.2.2.2.2.1, if_pos (show nI 28 = 28 from rfl), if_pos (Or.inr rfl)]
  intro w
  induction w with
  | zero =>
    intro f a n G nS tS τ ρ N M hw hN hM h hT hta
    exact stop f a n G nS tS τ ρ N M (by have := h.2.2.2.2.2.1; omega) (by omega) (by omega) h hT
  | succ w ih =>
    intro f a n G nS tS τ ρ N M hw hN hM h hT hta
    by_cases hac : a = eC E
    · exact stop f a n G nS tS τ ρ N M hac (by omega) (by omega) h hT
    obtain ⟨hE, hC, hR, ⟨t1, t2, t3, t4, t5⟩, ⟨r1, r2, r3, r4, r5⟩, g1, g2, g3⟩ := id h
    have hE1 := hE.1
    have hkd := q_kind hE hC t1 t2 g1
    have hor := eKc_or hE g1
    have r8 := (hR.2 a g1).1
    obtain ⟨N, rfl⟩ : ∃ K, N = K + 1 := ⟨N - 1, by omega⟩
    obtain ⟨M, rfl⟩ : ∃ K, M = K + 1 := ⟨M - 1, by omega⟩
    obtain ⟨τ1, ρ1, c1, c2, c3⟩ := fun_step (G := G) h (by omega)
    have s1 : prgC (nI f, τ) = some (.inl (nI (f + 1), τ1)) := by
      unfold prgC
      dsimp only
      unfold p_cRea_readProgram_23_s
      rw [if_neg (show ¬ (40 : Int32) < nI f from (nI_nlt (by omega) (by omega) : ¬ nI 40 < nI f)), hkd, if_neg (show ¬ nI (eKc E a) = (0 : Int32) from nI_ne0 (by omega) (by omega)), c1, Option.bind_some, ← nI_succ]
    have s2 : prgR ρ = some (.inl ρ1) := by
      unfold prgR p_r_readAll_20_s
      rw [r2, r3, if_neg (by decide), if_neg (nI_in (show a < 1202 by omega) (by omega)), nI_clamp (show a < 2 ^ 31 by omega), r8, if_neg (fun q => by have := (nI_eq (b := 28) (by omega) (by omega)).mp q; omega), c2, Option.bind_some]
    rcases c3 with c3 | ⟨c3, a', n', G', d1, d2, d3, d4, d5, d6⟩
    · obtain ⟨N, rfl⟩ : ∃ K, N = K + 1 := ⟨N - 1, by omega⟩
      obtain ⟨M, rfl⟩ : ∃ K, M = K + 1 := ⟨M - 1, by omega⟩
      refine ⟨τ1, 0, ρ1, ?_, ?_, Or.inl ⟨rfl, c3⟩⟩
      · rw [jx_loop_inl s1]
        refine jx_loop_out (X := some τ1) ?_ N
        show p_cRea_readProgram_23_s (nI (f + 1)) τ1 = _
        unfold p_cRea_readProgram_23_s
        rw [told_kind c3.1]
        split <;> rfl
      · rw [jx_loop_inl s2]
        refine jx_loop_out (X := some (0, ρ1)) ?_ M
        show p_r_readAll_20_s ρ1 = _
        unfold p_r_readAll_20_s
        rw [c3.2.1, if_pos rfl, if_pos (Or.inl rfl)]
    · obtain ⟨q1, q2, q3, q4, q5, q6⟩ := hT
      have hn' : n' ≤ a' ∧ a' ≤ eC E := ⟨d3.2.2.2.2.2.2.1, d3.2.2.2.2.2.1⟩
      rw [jx_loop_inl s1, jx_loop_inl s2]
      refine ih (f + 1) a' n' G' (fun g => if g = f + 1 then n' else nS g) (fun g => if g = f + 1 then a' else tS g) τ1 ρ1 N M (by omega) (by omega) (by omega) d3 ⟨by omega, by omega, ?_, if_pos rfl, ?_, fun g hg => ?_⟩ (if_pos rfl)
      · show (if 0 = f + 1 then n' else nS 0) = 0
        rw [if_neg (by omega)]; exact q3
      · show (if f + 1 = f + 1 then a' else tS (f + 1)) ≤ eC E
        rw [if_pos rfl]; omega
      · have e1 : (if f + 1 = f + 1 then a' else tS (f + 1)) = a' := if_pos rfl
        show (if g = f + 1 then n' else nS g) < (if g + 1 = f + 1 then n' else nS (g + 1)) ∧ (if g + 1 = f + 1 then n' else nS (g + 1)) ≤ n' ∧ (if g + 1 = f + 1 then a' else tS (g + 1)) ≤ (if f + 1 = f + 1 then a' else tS (f + 1)) ∧ FunOK E G' τ1 ρ1 g (if g = f + 1 then n' else nS g) ((if g + 1 = f + 1 then n' else nS (g + 1)) - 1) (if g = f + 1 then a' else tS g) (if g + 1 = f + 1 then a' else tS (g + 1))
        rw [e1, if_neg (show ¬ g = f + 1 by omega), if_neg (show ¬ g = f + 1 by omega)]
        by_cases hgf : g = f
        · subst hgf
          rw [if_pos rfl, if_pos rfl, q4, hta]
          exact ⟨d2, Nat.le_refl _, Nat.le_refl _, d4⟩
        · rw [if_neg (by omega), if_neg (by omega)]
          obtain ⟨u1, u2, u3, u4⟩ := q6 g (by omega)
          exact ⟨u1, by omega, by omega, FunOK_keep d5 d6 (by omega) (by omega) (by omega) u4⟩
theorem read_all {E : jEn} {τ ρ : jx_S} (hE : EnvOK E) (hC : EnvC E τ) (hR : EnvR E ρ) (h1 : τ.1 1 0 = 0) (h2 : ρ.1 106 4 = 0) (h29 : τ.1 29 0 = 0 ∧ τ.1 23 0 = 0) :
    ∃ τ' b ρ', p_cRea_readProgram τ = some τ' ∧ p_r_readAll ρ = some (b, ρ') ∧ ((b = 0 ∧ FX τ' ρ') ∨ (b = 1 ∧ ∃ F K G nS tS, PG E F (eC E) K τ' ρ' ∧ TreeOK E G F K nS tS τ' ρ')) := by
  unfold p_cRea_readProgram p_cRea_readProgram_23 p_r_readAll p_r_readAll_20
  have hE1 := hE.1
  refine prog_loop 1200 0 0 0 (fun _ => (fun _ => False, 0, 0, 0)) (fun _ => 0) (fun _ => 0) (jx_i (jx_i (jx_i τ 5 6 0) 3 9 0) 4 10 0) (jx_i (jx_i (jx_i (jx_i ρ 106 40 0) 106 25 0) 106 38 0) 106 41 1) 100000000 100000000 (by omega) (by omega) (by omega) ⟨hE, EnvC_keep hC (by simp (disch := first | assumption | decide | omega) only [nI_lit, cT_lt, cF_lt, cT_le, cF_le, cT_eq, cF_eq, nF_le, mF_eq, mG_eq, mT_lt, eq_self, nI_clamp, nI_add, Nat.add_zero, nI_sub, s_i_ne, s_i_eq, s_i_2, s_l_1, s_l_ne, s_l_eq, s_p_ne, s_p_eq, s_p_2, s_q_1, s_q_ne, s_q_eq, u_ne, u_eq, v_ne, v_eq, w_ne, w_eq, jI_at_in, jL_at_in, false_or, or_false, true_or, or_true, true_and, and_true, false_and, and_false, not_true_eq_false, not_false_eq_true, ↓reduceIte, Option.bind_some, Option.map_some]) (by simp (disch := first | assumption | decide | omega) only [nI_lit, cT_lt, cF_lt, cT_le, cF_le, cT_eq, cF_eq, nF_le, mF_eq, mG_eq, mT_lt, eq_self, nI_clamp, nI_add, Nat.add_zero, nI_sub, s_i_ne, s_i_eq, s_i_2, s_l_1, s_l_ne, s_l_eq, s_p_ne, s_p_eq, s_p_2, s_q_1, s_q_ne, s_q_eq, u_ne, u_eq, v_ne, v_eq, w_ne, w_eq, jI_at_in, jL_at_in, false_or, or_false, true_or, or_true, true_and, and_true, false_and, and_false, not_true_eq_false, not_false_eq_true, ↓reduceIte, Option.bind_some, Option.map_some]) (by simp (disch := first | assumption | decide | omega) only [nI_lit, cT_lt, cF_lt, cT_le, cF_le, cT_eq, cF_eq, nF_le, mF_eq, mG_eq, mT_lt, eq_self, nI_clamp, nI_add, Nat.add_zero, nI_sub, s_i_ne, s_i_eq, s_i_2, s_l_1, s_l_ne, s_l_eq, s_p_ne, s_p_eq, s_p_2, s_q_1, s_q_ne, s_q_eq, u_ne, u_eq, v_ne, v_eq, w_ne, w_eq, jI_at_in, jL_at_in, false_or, or_false, true_or, or_true, true_and, and_true, false_and, and_false, not_true_eq_false, not_false_eq_true, ↓reduceIte, Option.bind_some, Option.map_some]), EnvR_keep hR (by simp (disch := first | assumption | decide | omega) only [nI_lit, cT_lt, cF_lt, cT_le, cF_le, cT_eq, cF_eq, nF_le, mF_eq, mG_eq, mT_lt, eq_self, nI_clamp, nI_add, Nat.add_zero, nI_sub, s_i_ne, s_i_eq, s_i_2, s_l_1, s_l_ne, s_l_eq, s_p_ne, s_p_eq, s_p_2, s_q_1, s_q_ne, s_q_eq, u_ne, u_eq, v_ne, v_eq, w_ne, w_eq, jI_at_in, jL_at_in, false_or, or_false, true_or, or_true, true_and, and_true, false_and, and_false, not_true_eq_false, not_false_eq_true, ↓reduceIte, Option.bind_some, Option.map_some]) (by simp (disch := first | assumption | decide | omega) only [nI_lit, cT_lt, cF_lt, cT_le, cF_le, cT_eq, cF_eq, nF_le, mF_eq, mG_eq, mT_lt, eq_self, nI_clamp, nI_add, Nat.add_zero, nI_sub, s_i_ne, s_i_eq, s_i_2, s_l_1, s_l_ne, s_l_eq, s_p_ne, s_p_eq, s_p_2, s_q_1, s_q_ne, s_q_eq, u_ne, u_eq, v_ne, v_eq, w_ne, w_eq, jI_at_in, jL_at_in, false_or, or_false, true_or, or_true, true_and, and_true, false_and, and_false, not_true_eq_false, not_false_eq_true, ↓reduceIte, Option.bind_some, Option.map_some]) (by simp (disch := first | assumption | decide | omega) only [nI_lit, cT_lt, cF_lt, cT_le, cF_le, cT_eq, cF_eq, nF_le, mF_eq, mG_eq, mT_lt, eq_self, nI_clamp, nI_add, Nat.add_zero, nI_sub, s_i_ne, s_i_eq, s_i_2, s_l_1, s_l_ne, s_l_eq, s_p_ne, s_p_eq, s_p_2, s_q_1, s_q_ne, s_q_eq, u_ne, u_eq, v_ne, v_eq, w_ne, w_eq, jI_at_in, jL_at_in, false_or, or_false, true_or, or_true, true_and, and_true, false_and, and_false, not_true_eq_false, not_false_eq_true, ↓reduceIte, Option.bind_some, Option.map_some]) (by simp (disch := first | assumption | decide | omega) only [nI_lit, cT_lt, cF_lt, cT_le, cF_le, cT_eq, cF_eq, nF_le, mF_eq, mG_eq, mT_lt, eq_self, nI_clamp, nI_add, Nat.add_zero, nI_sub, s_i_ne, s_i_eq, s_i_2, s_l_1, s_l_ne, s_l_eq, s_p_ne, s_p_eq, s_p_2, s_q_1, s_q_ne, s_q_eq, u_ne, u_eq, v_ne, v_eq, w_ne, w_eq, jI_at_in, jL_at_in, false_or, or_false, true_or, or_true, true_and, and_true, false_and, and_false, not_true_eq_false, not_false_eq_true, ↓reduceIte, Option.bind_some, Option.map_some]) (by simp (disch := first | assumption | decide | omega) only [nI_lit, cT_lt, cF_lt, cT_le, cF_le, cT_eq, cF_eq, nF_le, mF_eq, mG_eq, mT_lt, eq_self, nI_clamp, nI_add, Nat.add_zero, nI_sub, s_i_ne, s_i_eq, s_i_2, s_l_1, s_l_ne, s_l_eq, s_p_ne, s_p_eq, s_p_2, s_q_1, s_q_ne, s_q_eq, u_ne, u_eq, v_ne, v_eq, w_ne, w_eq, jI_at_in, jL_at_in, false_or, or_false, true_or, or_true, true_and, and_true, false_and, and_false, not_true_eq_false, not_false_eq_true, ↓reduceIte, Option.bind_some, Option.map_some]), ⟨by simp (disch := first | assumption | decide | omega) only [h1, nI_lit, cT_lt, cF_lt, cT_le, cF_le, cT_eq, cF_eq, nF_le, mF_eq, mG_eq, mT_lt, eq_self, nI_clamp, nI_add, Nat.add_zero, nI_sub, s_i_ne, s_i_eq, s_i_2, s_l_1, s_l_ne, s_l_eq, s_p_ne, s_p_eq, s_p_2, s_q_1, s_q_ne, s_q_eq, u_ne, u_eq, v_ne, v_eq, w_ne, w_eq, jI_at_in, jL_at_in, false_or, or_false, true_or, or_true, true_and, and_true, false_and, and_false, not_true_eq_false, not_false_eq_true, ↓reduceIte, Option.bind_some, Option.map_some], by simp (disch := first | assumption | decide | omega) only [nI_lit, cT_lt, cF_lt, cT_le, cF_le, cT_eq, cF_eq, nF_le, mF_eq, mG_eq, mT_lt, eq_self, nI_clamp, nI_add, Nat.add_zero, nI_sub, s_i_ne, s_i_eq, s_i_2, s_l_1, s_l_ne, s_l_eq, s_p_ne, s_p_eq, s_p_2, s_q_1, s_q_ne, s_q_eq, u_ne, u_eq, v_ne, v_eq, w_ne, w_eq, jI_at_in, jL_at_in, false_or, or_false, true_or, or_true, true_and, and_true, false_and, and_false, not_true_eq_false, not_false_eq_true, ↓reduceIte, Option.bind_some, Option.map_some], by simp (disch := first | assumption | decide | omega) only [nI_lit, cT_lt, cF_lt, cT_le, cF_le, cT_eq, cF_eq, nF_le, mF_eq, mG_eq, mT_lt, eq_self, nI_clamp, nI_add, Nat.add_zero, nI_sub, s_i_ne, s_i_eq, s_i_2, s_l_1, s_l_ne, s_l_eq, s_p_ne, s_p_eq, s_p_2, s_q_1, s_q_ne, s_q_eq, u_ne, u_eq, v_ne, v_eq, w_ne, w_eq, jI_at_in, jL_at_in, false_or, or_false, true_or, or_true, true_and, and_true, false_and, and_false, not_true_eq_false, not_false_eq_true, ↓reduceIte, Option.bind_some, Option.map_some], by simp (disch := first | assumption | decide | omega) only [nI_lit, cT_lt, cF_lt, cT_le, cF_le, cT_eq, cF_eq, nF_le, mF_eq, mG_eq, mT_lt, eq_self, nI_clamp, nI_add, Nat.add_zero, nI_sub, s_i_ne, s_i_eq, s_i_2, s_l_1, s_l_ne, s_l_eq, s_p_ne, s_p_eq, s_p_2, s_q_1, s_q_ne, s_q_eq, u_ne, u_eq, v_ne, v_eq, w_ne, w_eq, jI_at_in, jL_at_in, false_or, or_false, true_or, or_true, true_and, and_true, false_and, and_false, not_true_eq_false, not_false_eq_true, ↓reduceIte, Option.bind_some, Option.map_some], by simp (disch := first | assumption | decide | omega) only [h29, nI_lit, cT_lt, cF_lt, cT_le, cF_le, cT_eq, cF_eq, nF_le, mF_eq, mG_eq, mT_lt, eq_self, nI_clamp, nI_add, Nat.add_zero, nI_sub, s_i_ne, s_i_eq, s_i_2, s_l_1, s_l_ne, s_l_eq, s_p_ne, s_p_eq, s_p_2, s_q_1, s_q_ne, s_q_eq, u_ne, u_eq, v_ne, v_eq, w_ne, w_eq, jI_at_in, jL_at_in, false_or, or_false, true_or, or_true, true_and, and_true, false_and, and_false, not_true_eq_false, not_false_eq_true, ↓reduceIte, Option.bind_some, Option.map_some]⟩, ⟨by simp (disch := first | assumption | decide | omega) only [h2, nI_lit, cT_lt, cF_lt, cT_le, cF_le, cT_eq, cF_eq, nF_le, mF_eq, mG_eq, mT_lt, eq_self, nI_clamp, nI_add, Nat.add_zero, nI_sub, s_i_ne, s_i_eq, s_i_2, s_l_1, s_l_ne, s_l_eq, s_p_ne, s_p_eq, s_p_2, s_q_1, s_q_ne, s_q_eq, u_ne, u_eq, v_ne, v_eq, w_ne, w_eq, jI_at_in, jL_at_in, false_or, or_false, true_or, or_true, true_and, and_true, false_and, and_false, not_true_eq_false, not_false_eq_true, ↓reduceIte, Option.bind_some, Option.map_some], by simp (disch := first | assumption | decide | omega) only [nI_lit, cT_lt, cF_lt, cT_le, cF_le, cT_eq, cF_eq, nF_le, mF_eq, mG_eq, mT_lt, eq_self, nI_clamp, nI_add, Nat.add_zero, nI_sub, s_i_ne, s_i_eq, s_i_2, s_l_1, s_l_ne, s_l_eq, s_p_ne, s_p_eq, s_p_2, s_q_1, s_q_ne, s_q_eq, u_ne, u_eq, v_ne, v_eq, w_ne, w_eq, jI_at_in, jL_at_in, false_or, or_false, true_or, or_true, true_and, and_true, false_and, and_false, not_true_eq_false, not_false_eq_true, ↓reduceIte, Option.bind_some, Option.map_some], by simp (disch := first | assumption | decide | omega) only [nI_lit, cT_lt, cF_lt, cT_le, cF_le, cT_eq, cF_eq, nF_le, mF_eq, mG_eq, mT_lt, eq_self, nI_clamp, nI_add, Nat.add_zero, nI_sub, s_i_ne, s_i_eq, s_i_2, s_l_1, s_l_ne, s_l_eq, s_p_ne, s_p_eq, s_p_2, s_q_1, s_q_ne, s_q_eq, u_ne, u_eq, v_ne, v_eq, w_ne, w_eq, jI_at_in, jL_at_in, false_or, or_false, true_or, or_true, true_and, and_true, false_and, and_false, not_true_eq_false, not_false_eq_true, ↓reduceIte, Option.bind_some, Option.map_some], by simp (disch := first | assumption | decide | omega) only [nI_lit, cT_lt, cF_lt, cT_le, cF_le, cT_eq, cF_eq, nF_le, mF_eq, mG_eq, mT_lt, eq_self, nI_clamp, nI_add, Nat.add_zero, nI_sub, s_i_ne, s_i_eq, s_i_2, s_l_1, s_l_ne, s_l_eq, s_p_ne, s_p_eq, s_p_2, s_q_1, s_q_ne, s_q_eq, u_ne, u_eq, v_ne, v_eq, w_ne, w_eq, jI_at_in, jL_at_in, false_or, or_false, true_or, or_true, true_and, and_true, false_and, and_false, not_true_eq_false, not_false_eq_true, ↓reduceIte, Option.bind_some, Option.map_some], by simp (disch := first | assumption | decide | omega) only [nI_lit, cT_lt, cF_lt, cT_le, cF_le, cT_eq, cF_eq, nF_le, mF_eq, mG_eq, mT_lt, eq_self, nI_clamp, nI_add, Nat.add_zero, nI_sub, s_i_ne, s_i_eq, s_i_2, s_l_1, s_l_ne, s_l_eq, s_p_ne, s_p_eq, s_p_2, s_q_1, s_q_ne, s_q_eq, u_ne, u_eq, v_ne, v_eq, w_ne, w_eq, jI_at_in, jL_at_in, false_or, or_false, true_or, or_true, true_and, and_true, false_and, and_false, not_true_eq_false, not_false_eq_true, ↓reduceIte, Option.bind_some, Option.map_some]⟩, by omega, by omega, by omega⟩ ⟨by omega, by omega, rfl, rfl, Nat.zero_le _, fun g hg => absurd hg (by omega)⟩ rfl
