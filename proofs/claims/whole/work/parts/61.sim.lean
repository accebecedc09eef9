/-! READER, 8: how the reference's todos go; what it is that a part is read. -/
def rdF : Int32 × jx_S → Option ((Int32 × jx_S) ⊕ jx_S) := fun s => p_r_function0_170_s s.1 (s.2)
def RT (f k : Nat) (ρ ρ' : jx_S) : Prop := ∀ N, jx_loop (N + k) rdF (nI f, ρ) = jx_loop N rdF (nI f, ρ')
theorem RT_trans {f k k2 : Nat} {ρ ρ1 ρ2 : jx_S} (h : RT f k ρ ρ1) (h2 : RT f k2 ρ1 ρ2) : RT f (k + k2) ρ ρ2 := fun N => by
  rw [show N + (k + k2) = (N + k2) + k by omega, h (N + k2), h2 N]
theorem RT_one {f t : Nat} {ρ ρ1 : jx_S} (h41 : ρ.1 106 41 = 1) (h45 : ρ.1 106 45 = nI (t + 1)) (ht : t < 4000) (h : p_r_readOne (ρ.1 138 t) (ρ.1 139 t) (ρ.1 140 t) (jx_i ρ 106 45 (nI t)) = some ρ1) : RT f 1 ρ ρ1 := fun N => by
  refine jx_loop_inl ?_
  show p_r_function0_170_s (nI f) ρ = _
  unfold p_r_function0_170_s
  simp (disch := first | assumption | decide | omega) only [h41, h45, nI_lit, cT_lt, cF_lt, cT_le, cF_le, cT_eq, cF_eq, nF_le, mF_eq, mG_eq, mT_lt, eq_self, nI_clamp, nI_add, Nat.add_zero, nI_sub, s_i_ne, s_i_eq, s_i_2, s_l_1, s_l_ne, s_l_eq, s_p_ne, s_p_eq, s_p_2, s_q_1, s_q_ne, s_q_eq, u_ne, u_eq, v_ne, v_eq, w_ne, w_eq, jI_at_in, jL_at_in, false_or, or_false, true_or, or_true, true_and, and_true, false_and, and_false, not_true_eq_false, not_false_eq_true, ↓reduceIte, Option.bind_some, Option.map_some]
  simp only [Nat.add_sub_cancel]
  simp (disch := first | assumption | decide | omega) only [h, nI_lit, cT_lt, cF_lt, cT_le, cF_le, cT_eq, cF_eq, nF_le, mF_eq, mG_eq, mT_lt, eq_self, nI_clamp, nI_add, Nat.add_zero, nI_sub, s_i_ne, s_i_eq, s_i_2, s_l_1, s_l_ne, s_l_eq, s_p_ne, s_p_eq, s_p_2, s_q_1, s_q_ne, s_q_eq, u_ne, u_eq, v_ne, v_eq, w_ne, w_eq, jI_at_in, jL_at_in, false_or, or_false, true_or, or_true, true_and, and_true, false_and, and_false, not_true_eq_false, not_false_eq_true, ↓reduceIte, Option.bind_some, Option.map_some]
def letc (g : Nat → Int32) (lo : Nat) : Nat → Nat
  | 0 => 0
  | d + 1 => letc g lo d + (if g (lo + d) = nI 5 then 1 else 0)
theorem letc_add (g : Nat → Int32) (lo d : Nat) : ∀ e, letc g lo (d + e) = letc g lo d + letc g (lo + d) e := by
  intro e
  induction e with
  | zero => rfl
  | succ e ih =>
    show letc g lo (d + e) + _ = _
    rw [ih, letc, Nat.add_assoc, Nat.add_assoc lo d e]
    rfl
theorem letc_congr {g g' : Nat → Int32} {lo : Nat} : ∀ d, (∀ j, j < d → g' (lo + j) = g (lo + j)) → letc g' lo d = letc g lo d := by
  intro d
  induction d with
  | zero => intro _; rfl
  | succ d ih =>
    intro h
    rw [letc, letc, ih (fun j hj => h j (by omega)), h d (by omega)]
/-- the root of what was read -/
def Rt (τ ρ : jx_S) (G : jGh) (sc : List Nat) (r lo B D : Nat) : Prop := τ.1 29 (r + 1) = 0 ∧ τ.1 31 (r + 1) = 0 ∧ ρ.1 121 r = nI lo ∧ ρ.1 122 r = -1 ∧ (∀ s, gV G r s → s ∈ sc) ∧ gB G r = B ∧ gD G r = D
theorem Rt_keep {f n l s t dn : Nat} {τ ρ τ' ρ' : jx_S} {G G' : jGh} {sc : List Nat} {r lo B D : Nat} (h : Rt τ ρ G sc r lo B D) (hK : KP f n l s t dn τ ρ τ' ρ') (hr : r < n) (hG : G' r = G r) : Rt τ' ρ' G' sc r lo B D := by
  obtain ⟨h1, h2, h3, h4, h5, h6, h7⟩ := h
  unfold gV at h5; unfold gB at h6; unfold gD at h7
  refine ⟨by rw [hK.1 29 (by decide) _ (by omega)]; exact h1, by rw [hK.1 31 (by decide) _ (by omega)]; exact h2, by rw [hK.2.1 121 (by decide) _ hr]; exact h3, by rw [hK.2.1 122 (by decide) _ hr]; exact h4, ?_, ?_, ?_⟩
  · unfold gV; rw [hG]; exact h5
  · unfold gB; rw [hG]; exact h6
  · unfold gD; rw [hG]; exact h7
def DoneT (E : jEn) (f nf a n l : Nat) (sc : List Nat) (G : jGh) (t tp dn dep : Nat) (τ ρ : jx_S) (a' n' l' : Nat) (G' : jGh) (τ' ρ' : jx_S) : Prop :=
  a < a' ∧ n < n' ∧ (n' - n ≤ a' - a ∧ gA G' (n' - 1) ≤ 31 - dep) ∧ l ≤ l' ∧ PR E f nf a' n' l' sc G' tp (dn + 1) dep τ' ρ' ∧ KP f n l sc.length t dn τ ρ τ' ρ' ∧ ρ'.1 141 dn = nI (n' - 1) ∧ Rt τ' ρ' G' sc (n' - 1) n l l' ∧ (∀ j, j < n → G' j = G j) ∧ ρ'.1 130 f = ρ.1 130 f + nI (letc (ρ'.1 112) n (n' - n))
def Done (E : jEn) (f nf a n l : Nat) (sc : List Nat) (G : jGh) (t dn dep : Nat) (τ ρ : jx_S) (a' n' l' : Nat) (G' : jGh) (τ' ρ' : jx_S) : Prop := DoneT E f nf a n l sc G t t dn dep τ ρ a' n' l' G' τ' ρ'
def SimO (E : jEn) (f nf a n l : Nat) (sc : List Nat) (G : jGh) (t dn dep : Nat) (τ ρ : jx_S) (sl fb : Nat) (C : Option (Int32 × jx_S)) : Prop :=
  ∃ v τ' k ρ', C = some (v, τ') ∧ RT f k ρ ρ' ∧ ((k ≤ 20 * (eC E - a) + fb ∧ ∃ t' s x, FR t' s x τ' ρ') ∨ ∃ a' n' l' G', k + sl ≤ 20 * (a' - a) ∧ v = nI n' ∧ Done E f nf a n l sc G t dn dep τ ρ a' n' l' G' τ' ρ')
def SimS (E : jEn) (f nf a n l : Nat) (sc : List Nat) (G : jGh) (t dn dep : Nat) (τ ρ : jx_S) (sl fb : Nat) (C : Option (Int32 × jx_S)) : Prop :=
  ∃ v τ' k ρ', C = some (v, τ') ∧ RT f k ρ ρ' ∧ ((k ≤ 20 * (eC E - a) + fb ∧ ∃ t' s x, FR t' s x τ' ρ') ∨ ∃ a' n' l' G', (k + sl ≤ 20 * (a' - a) ∧ gA G' (n' - 1) ≤ 30 - dep) ∧ v = nI n' ∧ Done E f nf a n l sc G t dn dep τ ρ a' n' l' G' τ' ρ')
theorem SimO_of {E : jEn} {f nf a n l : Nat} {sc : List Nat} {G : jGh} {t dn dep : Nat} {τ ρ : jx_S} {sl fb : Nat} {C : Option (Int32 × jx_S)} (h : SimS E f nf a n l sc G t dn dep τ ρ sl fb C) : SimO E f nf a n l sc G t dn dep τ ρ sl fb C := by
  obtain ⟨v, τ', k, ρ', h1, h2, h3⟩ := h
  refine ⟨v, τ', k, ρ', h1, h2, ?_⟩
  rcases h3 with h3 | ⟨a', n', l', G', h3, h4, h5⟩
  · exact Or.inl h3
  · exact Or.inr ⟨a', n', l', G', h3.1, h4, h5⟩
/-- popping an item -/
theorem PR_pop {E : jEn} {f nf a n l : Nat} {sc : List Nat} {G : jGh} {t dn dep : Nat} {τ ρ : jx_S} (h : PR E f nf a n l sc G (t + 1) dn dep τ ρ) : PR E f nf a n l sc G t dn dep τ (jx_i ρ 106 45 (nI t)) ∧ KP f n l sc.length t dn τ ρ τ (jx_i ρ 106 45 (nI t)) ∧ (jx_i ρ 106 45 (nI t)).1 130 = ρ.1 130 := by
  have hb := PR_bounds h
  exact ⟨PR_move h same_rfl (same_i same_rfl (by decide)) h.2.1 (PB_t h.2.2.1) (by omega) (by omega) (by omega), KP_same same_rfl (same_i same_rfl (by decide)), by simp (disch := first | assumption | decide | omega) only [nI_lit, cT_lt, cF_lt, cT_le, cF_le, cT_eq, cF_eq, nF_le, mF_eq, mG_eq, mT_lt, eq_self, nI_clamp, nI_add, Nat.add_zero, nI_sub, s_i_ne, s_i_eq, s_i_2, s_l_1, s_l_ne, s_l_eq, s_p_ne, s_p_eq, s_p_2, s_q_1, s_q_ne, s_q_eq, u_ne, u_eq, v_ne, v_eq, w_ne, w_eq, jI_at_in, jL_at_in, false_or, or_false, true_or, or_true, true_and, and_true, false_and, and_false, not_true_eq_false, not_false_eq_true, ↓reduceIte, Option.bind_some, Option.map_some]⟩
theorem ob_id {α : Type} (o : Option α) : (o.bind fun q => some q) = o := by cases o <;> rfl
theorem ob_pr {α β : Type} (o : Option (α × β)) : (o.bind fun q => some (q.1, q.2)) = o := by cases o <;> rfl
/-! which local a name is -/
theorem ScOK_at {E : jEn} {f l : Nat} {k61 k55 k142 k143 : Nat → Int32} : ∀ sc : List Nat, ScOK E f l k61 k55 k142 k143 sc → ∀ k, k < sc.length → ∃ x tk, x ∈ sc ∧ x < l ∧ k61 k = nI x ∧ k142 k = nI x ∧ k143 k = nI tk ∧ k55 (30 * f + x) = nI tk ∧ tk < eC E ∧ eK E tk = 1 := by
  intro sc
  induction sc with
  | nil => intro _ k hk; simp at hk
  | cons y ys ih =>
    intro h k hk
    simp only [List.length_cons] at hk
    obtain ⟨q1, q2, q3, ⟨tk, q4, q5, q6, q8⟩, q7⟩ := h
    by_cases hky : k = ys.length
    · subst hky
      exact ⟨y, tk, List.mem_cons_self, q1, q2, q3, q4, q5, q6, q8⟩
    · obtain ⟨x, tk', r1, r2⟩ := ih q7 k (by omega)
      exact ⟨x, tk', List.mem_cons_of_mem _ r1, r2⟩
def rsF (E : jEn) (k142 k143 : Nat → Int32) (tk : Nat) : Nat → Int32
  | 0 => -1
  | k + 1 => if eN E (k143 k).toNatClampNeg = eN E tk then k142 k else rsF E k142 k143 tk k
theorem rsF_in {E : jEn} {f l : Nat} {k61 k55 k142 k143 : Nat → Int32} {sc : List Nat} (h : ScOK E f l k61 k55 k142 k143 sc) (tk : Nat) : ∀ k, k ≤ sc.length → rsF E k142 k143 tk k = -1 ∨ ∃ s, s ∈ sc ∧ rsF E k142 k143 tk k = nI s := by
  intro k
  induction k with
  | zero => intro _; left; rfl
  | succ k ih =>
    intro hk
    rw [rsF]
    split
    · obtain ⟨x, tk', r1, r2, r3, r4, r5⟩ := ScOK_at sc h k (by omega)
      right; exact ⟨x, r1, r4⟩
    · exact ih (by omega)
theorem q_find {E : jEn} {f nf a n l : Nat} {sc : List Nat} {G : jGh} {t dn dep : Nat} {τ ρ : jx_S} (h : PR E f nf a n l sc G t dn dep τ ρ) (tk : Nat) (htk : tk < eC E) (hk : eK E tk = 1) : p_cRea_findLocal (nI tk) τ = some (rsF E (ρ.1 142) (ρ.1 143) tk sc.length, τ) := by
  have hb := PR_bounds h
  obtain ⟨hE, hA, hB, hbd, hS, hT, hN⟩ := id h
  obtain ⟨a0, a1, a2, a3, a4, a5, a6, a7⟩ := id hA
  unfold p_cRea_findLocal p_cRea_findLocal_7
  rw [a6]
  have key : ∀ k N, k ≤ sc.length → k < N → jx_loop N (fun s : Int32 × Int32 × jx_S => p_cRea_findLocal_7_s s.1 s.2.1 (s.2.2)) (nI tk, nI k - 1, τ) = some (rsF E (ρ.1 142) (ρ.1 143) tk k, τ) := by
    intro k
    induction k with
    | zero =>
      intro N _ hN
      obtain ⟨N, rfl⟩ : ∃ M, N = M + 1 := ⟨N - 1, by omega⟩
      refine jx_loop_out (X := some (-1, τ)) ?_ N
      show p_cRea_findLocal_7_s (nI tk) (nI 0 - 1) τ = _
      unfold p_cRea_findLocal_7_s
      rw [if_pos (by decide)]
    | succ k ih =>
      intro N hk hN
      obtain ⟨N, rfl⟩ : ∃ M, N = M + 1 := ⟨N - 1, by omega⟩
      obtain ⟨x, tk', r1, r2, r3, r4, r5, r6, r7, r8⟩ := ScOK_at sc hS k (by omega)
      have w1 := (a0 tk' (by omega)).2.2 r7 r8
      have w2 := (a0 tk (by omega)).2.2 htk (by assumption)
      have z1 : eN E tk' < 2 ^ 63 := by
        obtain ⟨y1, y2, y3, y4, y5⟩ := hE.2.2.2.2.2.2.2 tk' r7 r8
        have h1 := cdf_lt (fun j => lc (eT E (eP E tk' + j))) (eS E tk') (fun j _ => lc_le _)
        have h2 : 37 ^ (eS E tk') ≤ 37 ^ 12 := Nat.pow_le_pow_right (by omega) y2
        omega
      have z2 : eN E tk < 2 ^ 63 := by
        obtain ⟨y1, y2, y3, y4, y5⟩ := hE.2.2.2.2.2.2.2 tk htk (by assumption)
        have h1 := cdf_lt (fun j => lc (eT E (eP E tk + j))) (eS E tk) (fun j _ => lc_le _)
        have h2 : 37 ^ (eS E tk) ≤ 37 ^ 12 := Nat.pow_le_pow_right (by omega) y2
        omega
      have hn : v_cFun_nameOf (nI f) (nI x) τ = nI tk' := by
        unfold v_cFun_nameOf
        rw [show nI f * (30 : Int32) = nI (f * 30) from nI_mul f 30, nI_add, jI_at_in (by omega) (by omega), show f * 30 + x = 30 * f + x by omega, r6]
      have e1 : (lN (eN E tk') = lN (eN E tk)) = (eN E tk' = eN E tk) := propext (pk_lEQ z1 z2)
      have g5 : (ρ.1 143 k).toNatClampNeg = tk' := by rw [r5]; exact nI_clamp (by omega)
      rw [rsF, g5, r4]
      by_cases hc : eN E tk' = eN E tk
      · rw [if_pos hc]
        refine jx_loop_out (X := some (nI x, τ)) ?_ N
        show p_cRea_findLocal_7_s (nI tk) (nI (k + 1) - 1) τ = _
        unfold p_cRea_findLocal_7_s
        rw [nI_pred]
        simp (disch := first | assumption | decide | omega) only [a4, r3, hn, w1, w2, lg_eqN, e1, hc, nI_lit, cT_lt, cF_lt, cT_le, cF_le, cT_eq, cF_eq, nF_le, mF_eq, mG_eq, mT_lt, eq_self, nI_clamp, nI_add, Nat.add_zero, nI_sub, s_i_ne, s_i_eq, s_i_2, s_l_1, s_l_ne, s_l_eq, s_p_ne, s_p_eq, s_p_2, s_q_1, s_q_ne, s_q_eq, u_ne, u_eq, v_ne, v_eq, w_ne, w_eq, jI_at_in, jL_at_in, false_or, or_false, true_or, or_true, true_and, and_true, false_and, and_false, not_true_eq_false, not_false_eq_true, ↓reduceIte, Option.bind_some, Option.map_some]
      · rw [if_neg hc, jx_loop_inl (s1 := (nI tk, nI k - 1, τ)) (by
          show p_cRea_findLocal_7_s (nI tk) (nI (k + 1) - 1) τ = _
          unfold p_cRea_findLocal_7_s
          rw [nI_pred]
          simp (disch := first | assumption | decide | omega) only [a4, r3, hn, w1, w2, lg_eqN, e1, hc, nI_lit, cT_lt, cF_lt, cT_le, cF_le, cT_eq, cF_eq, nF_le, mF_eq, mG_eq, mT_lt, eq_self, nI_clamp, nI_add, Nat.add_zero, nI_sub, s_i_ne, s_i_eq, s_i_2, s_l_1, s_l_ne, s_l_eq, s_p_ne, s_p_eq, s_p_2, s_q_1, s_q_ne, s_q_eq, u_ne, u_eq, v_ne, v_eq, w_ne, w_eq, jI_at_in, jL_at_in, false_or, or_false, true_or, or_true, true_and, and_true, false_and, and_false, not_true_eq_false, not_false_eq_true, ↓reduceIte, Option.bind_some, Option.map_some]
          rw [Int32.sub_eq_add_neg])]
        exact ih N (by omega) (by omega)
  exact key sc.length 100000000 (by omega) (by omega)
theorem q_named {E : jEn} (hE : EnvOK E) {ρ : jx_S} (hR : EnvR E ρ) {f l s : Nat} {k61 k55 : Nat → Int32} {sc : List Nat} (hS : ScOK E f l k61 k55 (ρ.1 142) (ρ.1 143) sc) (h52 : ρ.1 106 52 = nI sc.length) (hs : sc.length ≤ 30) (tk : Nat) (htk : tk < eC E) (hk : eK E tk = 1) : p_r_localNamed (nI tk) ρ = some (rsF E (ρ.1 142) (ρ.1 143) tk sc.length, ρ) := by
  have hE1 := hE.1
  unfold p_r_localNamed p_r_localNamed_4
  have key := jx_loop_for (f := fun s : Int32 × Int32 × Int32 × jx_S => p_r_localNamed_4_s s.1 s.2.1 s.2.2.1 (s.2.2.2)) (fun k => (nI tk, rsF E (ρ.1 142) (ρ.1 143) tk k, nI k, ρ)) sc.length (X := some (rsF E (ρ.1 142) (ρ.1 143) tk sc.length, ρ)) (n := 100000000) (by
    intro k hk'
    obtain ⟨x, tk', r1, r2, r3, r4, r5, r6, r7, r8⟩ := ScOK_at sc hS k hk'
    have e := q_r_isSame E hE ρ hR tk' tk r7 htk r8 hk
    have g5 : (ρ.1 143 k).toNatClampNeg = tk' := by rw [r5]; exact nI_clamp (by omega)
    show p_r_localNamed_4_s (nI tk) (rsF E (ρ.1 142) (ρ.1 143) tk k) (nI k) ρ = _
    unfold p_r_localNamed_4_s p_r_localNamed_36
    rw [rsF, g5]
    by_cases hc : eN E tk' = eN E tk
    · rw [if_pos hc] at e
      simp (disch := first | assumption | decide | omega) only [h52, r5, e, r4, hc, nI_lit, cT_lt, cF_lt, cT_le, cF_le, cT_eq, cF_eq, nF_le, mF_eq, mG_eq, mT_lt, eq_self, nI_clamp, nI_add, Nat.add_zero, nI_sub, s_i_ne, s_i_eq, s_i_2, s_l_1, s_l_ne, s_l_eq, s_p_ne, s_p_eq, s_p_2, s_q_1, s_q_ne, s_q_eq, u_ne, u_eq, v_ne, v_eq, w_ne, w_eq, jI_at_in, jL_at_in, false_or, or_false, true_or, or_true, true_and, and_true, false_and, and_false, not_true_eq_false, not_false_eq_true, ↓reduceIte, Option.bind_some, Option.map_some]
    · rw [if_neg hc] at e
      simp (disch := first | assumption | decide | omega) only [h52, r5, e, r4, hc, nI_lit, cT_lt, cF_lt, cT_le, cF_le, cT_eq, cF_eq, nF_le, mF_eq, mG_eq, mT_lt, eq_self, nI_clamp, nI_add, Nat.add_zero, nI_sub, s_i_ne, s_i_eq, s_i_2, s_l_1, s_l_ne, s_l_eq, s_p_ne, s_p_eq, s_p_2, s_q_1, s_q_ne, s_q_eq, u_ne, u_eq, v_ne, v_eq, w_ne, w_eq, jI_at_in, jL_at_in, false_or, or_false, true_or, or_true, true_and, and_true, false_and, and_false, not_true_eq_false, not_false_eq_true, ↓reduceIte, Option.bind_some, Option.map_some]) (by
    show p_r_localNamed_4_s (nI tk) (rsF E (ρ.1 142) (ρ.1 143) tk sc.length) (nI sc.length) ρ = _
    unfold p_r_localNamed_4_s
    simp (disch := first | assumption | decide | omega) only [h52, nI_lit, cT_lt, cF_lt, cT_le, cF_le, cT_eq, cF_eq, nF_le, mF_eq, mG_eq, mT_lt, eq_self, nI_clamp, nI_add, Nat.add_zero, nI_sub, s_i_ne, s_i_eq, s_i_2, s_l_1, s_l_ne, s_l_eq, s_p_ne, s_p_eq, s_p_2, s_q_1, s_q_ne, s_q_eq, u_ne, u_eq, v_ne, v_eq, w_ne, w_eq, jI_at_in, jL_at_in, false_or, or_false, true_or, or_true, true_and, and_true, false_and, and_false, not_true_eq_false, not_false_eq_true, ↓reduceIte, Option.bind_some, Option.map_some]) (by omega)
  exact key
