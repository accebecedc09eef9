/-! RUNS, 9: what is really put off. -/
theorem CPF_add {τ : jx_S} {n c b : Nat} : CPF τ (cAdd τ n c b) := by
  unfold cAdd
  refine ⟨fun r hr => ?_, fun j hj => ?_, fun j hj => ?_, fun r hr => rfl⟩
  · simp only [List.mem_cons, List.not_mem_nil, or_false, not_or] at hr
    rw [s_i_ne hr.2.1, s_p_ne hr.2.2.2.2.1, s_p_ne hr.2.2.2.1, s_p_ne hr.2.2.1]
  · simp (disch := first | assumption | decide | omega) only [nI_lit, cT_lt, cF_lt, cT_le, cF_le, cT_eq, cF_eq, nF_le, mF_eq, mG_eq, mT_lt, eq_self, nI_clamp, nI_add, Nat.add_zero, nI_sub, s_i_ne, s_i_eq, s_i_2, s_l_1, s_l_ne, s_l_eq, s_p_ne, s_p_eq, s_p_2, s_q_1, s_q_ne, s_q_eq, u_ne, u_eq, v_ne, v_eq, w_ne, w_eq, jI_at_in, jL_at_in, false_or, or_false, true_or, or_true, true_and, and_true, false_and, and_false, not_true_eq_false, not_false_eq_true, ↓reduceIte, Option.bind_some, Option.map_some]
  · simp only [List.mem_cons, List.not_mem_nil, or_false, not_or] at hj
    rw [s_i_eq, u_ne hj.1]; simp (disch := first | assumption | decide | omega) only [nI_lit, cT_lt, cF_lt, cT_le, cF_le, cT_eq, cF_eq, nF_le, mF_eq, mG_eq, mT_lt, eq_self, nI_clamp, nI_add, Nat.add_zero, nI_sub, s_i_ne, s_i_eq, s_i_2, s_l_1, s_l_ne, s_l_eq, s_p_ne, s_p_eq, s_p_2, s_q_1, s_q_ne, s_q_eq, u_ne, u_eq, v_ne, v_eq, w_ne, w_eq, jI_at_in, jL_at_in, false_or, or_false, true_or, or_true, true_and, and_true, false_and, and_false, not_true_eq_false, not_false_eq_true, ↓reduceIte, Option.bind_some, Option.map_some]
theorem RPF_add {ρ : jx_S} {n c b : Nat} : RPF ρ (rAdd ρ n c b) := by
  unfold rAdd
  refine ⟨fun r hr => ?_, fun j hj => ?_, fun r hr => rfl⟩
  · simp only [List.mem_cons, List.not_mem_nil, or_false, not_or] at hr
    rw [s_i_ne hr.1, s_i_ne hr.2.2.2.1, s_i_ne hr.2.2.1, s_i_ne hr.2.1]
  · simp only [List.mem_cons, List.not_mem_nil, or_false, not_or] at hj
    rw [s_i_eq, u_ne hj.1]; simp (disch := first | assumption | decide | omega) only [nI_lit, cT_lt, cF_lt, cT_le, cF_le, cT_eq, cF_eq, nF_le, mF_eq, mG_eq, mT_lt, eq_self, nI_clamp, nI_add, Nat.add_zero, nI_sub, s_i_ne, s_i_eq, s_i_2, s_l_1, s_l_ne, s_l_eq, s_p_ne, s_p_eq, s_p_2, s_q_1, s_q_ne, s_q_eq, u_ne, u_eq, v_ne, v_eq, w_ne, w_eq, jI_at_in, jL_at_in, false_or, or_false, true_or, or_true, true_and, and_true, false_and, and_false, not_true_eq_false, not_false_eq_true, ↓reduceIte, Option.bind_some, Option.map_some]
theorem PO_add {E : jEn} {G : jGh} {F : Nat} {nS pN bN lN' : Nat → Nat} {ty : Nat → Nat → Nat} {W : Nat → Nat} {D : Nat → jDs} {tk LO : Nat → Nat} {sl sp : Nat → Nat → Nat} {H : jHp} {φ q c d : Nat} {gd : Nat → Prop} {τ ρ : jx_S} (h : PO E G F nS pN bN lN' ty W D tk LO sl sp H φ gd q τ ρ) (hφ : φ < jFn H) (hc1 : nS (jFf H φ) ≤ c) (hc2 : c < nS (jFf H φ + 1)) (hc : c < 1200) (hW : W c < 2) (hv : ∀ s, gV G c s → jLb H φ s) (ho : ∀ c', LO c ≤ c' → c' ≤ c → jOw H c' φ = 2 * d + 1) (hk : dK (D c) = 28 → 0 < dM (D c)) (hn : jPn H < 3000) : PO E G F nS pN bN lN' ty W D tk LO sl sp (hAdd LO H c φ) φ gd q (cAdd τ (jPn H) c (jFb H φ)) (rAdd ρ (jPn H) c (jFb H φ)) := by
  obtain ⟨h1, ⟨p1, p2, p3⟩, h3, h4, h5, ⟨h6, h7, h8, h9⟩, h10, h11⟩ := h
  refine ⟨RP_f h1 CPF_add RPF_add, ⟨?_, ?_, fun i hi => ?_⟩, ?_, ?_, ?_, ⟨?_, ?_, ?_, ?_⟩, HI_add h10 hφ hc1 hc2 hW hv ho hk hn, h11⟩
  · show (cAdd τ (jPn H) c (jFb H φ)).1 9 12 = nI (jPn H + 1)
    unfold cAdd; simp (disch := first | assumption | decide | omega) only [nI_lit, cT_lt, cF_lt, cT_le, cF_le, cT_eq, cF_eq, nF_le, mF_eq, mG_eq, mT_lt, eq_self, nI_clamp, nI_add, Nat.add_zero, nI_sub, s_i_ne, s_i_eq, s_i_2, s_l_1, s_l_ne, s_l_eq, s_p_ne, s_p_eq, s_p_2, s_q_1, s_q_ne, s_q_eq, u_ne, u_eq, v_ne, v_eq, w_ne, w_eq, jI_at_in, jL_at_in, false_or, or_false, true_or, or_true, true_and, and_true, false_and, and_false, not_true_eq_false, not_false_eq_true, ↓reduceIte, Option.bind_some, Option.map_some]
  · show (rAdd ρ (jPn H) c (jFb H φ)).1 106 67 = nI (jPn H + 1)
    unfold rAdd; simp (disch := first | assumption | decide | omega) only [nI_lit, cT_lt, cF_lt, cT_le, cF_le, cT_eq, cF_eq, nF_le, mF_eq, mG_eq, mT_lt, eq_self, nI_clamp, nI_add, Nat.add_zero, nI_sub, s_i_ne, s_i_eq, s_i_2, s_l_1, s_l_ne, s_l_eq, s_p_ne, s_p_eq, s_p_2, s_q_1, s_q_ne, s_q_eq, u_ne, u_eq, v_ne, v_eq, w_ne, w_eq, jI_at_in, jL_at_in, false_or, or_false, true_or, or_true, true_and, and_true, false_and, and_false, not_true_eq_false, not_false_eq_true, ↓reduceIte, Option.bind_some, Option.map_some]
  · have hi' : i < jPn H + 1 := hi
    show ((cAdd τ (jPn H) c (jFb H φ)).1 89 i = nI ((if i = jPn H then c else jPk H i) + 1) ∧ (rAdd ρ (jPn H) c (jFb H φ)).1 151 i = nI (if i = jPn H then c else jPk H i)) ∧ ((cAdd τ (jPn H) c (jFb H φ)).1 91 i = nI (jFb H (if i = jPn H then φ else jPf H i)) ∧ (rAdd ρ (jPn H) c (jFb H φ)).1 152 i = nI (jFb H (if i = jPn H then φ else jPf H i))) ∧ ((cAdd τ (jPn H) c (jFb H φ)).1 93 i = nI (if i = jPn H then 0 else jPs H i) ∧ (rAdd ρ (jPn H) c (jFb H φ)).1 153 i = nI (if 0 = i + 1 then 2 else if i = jPn H then 0 else jPs H i)) ∧ ((if i = jPn H then 0 else jPs H i) = 2 → (cAdd τ (jPn H) c (jFb H φ)).2 95 i = cV (jPv H i) ∧ (rAdd ρ (jPn H) c (jFb H φ)).2 154 i = rV (jPv H i)) ∧ (0 = i + 1 → (rAdd ρ (jPn H) c (jFb H φ)).2 154 i = rV (0, 0))
    unfold cAdd rAdd
    by_cases z : i = jPn H
    · simp only [if_pos z, if_neg (show ¬ 0 = i + 1 by omega)]
      refine ⟨⟨?_, ?_⟩, ⟨?_, ?_⟩, ⟨?_, ?_⟩, fun q => by omega, fun q => by omega⟩ <;> (subst z; simp (disch := first | assumption | decide | omega) only [nI_lit, cT_lt, cF_lt, cT_le, cF_le, cT_eq, cF_eq, nF_le, mF_eq, mG_eq, mT_lt, eq_self, nI_clamp, nI_add, Nat.add_zero, nI_sub, s_i_ne, s_i_eq, s_i_2, s_l_1, s_l_ne, s_l_eq, s_p_ne, s_p_eq, s_p_2, s_q_1, s_q_ne, s_q_eq, u_ne, u_eq, v_ne, v_eq, w_ne, w_eq, jI_at_in, jL_at_in, false_or, or_false, true_or, or_true, true_and, and_true, false_and, and_false, not_true_eq_false, not_false_eq_true, ↓reduceIte, Option.bind_some, Option.map_some])
    · simp only [if_neg z]
      obtain ⟨⟨u1, u2⟩, ⟨u3, u4⟩, ⟨u5, u6⟩, u7, u8⟩ := p3 i (by omega)
      refine ⟨⟨?_, ?_⟩, ⟨?_, ?_⟩, ⟨?_, ?_⟩, fun q => u7 q, fun q => by omega⟩
      · simp (disch := first | assumption | decide | omega) only [nI_lit, cT_lt, cF_lt, cT_le, cF_le, cT_eq, cF_eq, nF_le, mF_eq, mG_eq, mT_lt, eq_self, nI_clamp, nI_add, Nat.add_zero, nI_sub, s_i_ne, s_i_eq, s_i_2, s_l_1, s_l_ne, s_l_eq, s_p_ne, s_p_eq, s_p_2, s_q_1, s_q_ne, s_q_eq, u_ne, u_eq, v_ne, v_eq, w_ne, w_eq, jI_at_in, jL_at_in, false_or, or_false, true_or, or_true, true_and, and_true, false_and, and_false, not_true_eq_false, not_false_eq_true, ↓reduceIte, Option.bind_some, Option.map_some]; exact u1
      · simp (disch := first | assumption | decide | omega) only [nI_lit, cT_lt, cF_lt, cT_le, cF_le, cT_eq, cF_eq, nF_le, mF_eq, mG_eq, mT_lt, eq_self, nI_clamp, nI_add, Nat.add_zero, nI_sub, s_i_ne, s_i_eq, s_i_2, s_l_1, s_l_ne, s_l_eq, s_p_ne, s_p_eq, s_p_2, s_q_1, s_q_ne, s_q_eq, u_ne, u_eq, v_ne, v_eq, w_ne, w_eq, jI_at_in, jL_at_in, false_or, or_false, true_or, or_true, true_and, and_true, false_and, and_false, not_true_eq_false, not_false_eq_true, ↓reduceIte, Option.bind_some, Option.map_some]; exact u2
      · simp (disch := first | assumption | decide | omega) only [nI_lit, cT_lt, cF_lt, cT_le, cF_le, cT_eq, cF_eq, nF_le, mF_eq, mG_eq, mT_lt, eq_self, nI_clamp, nI_add, Nat.add_zero, nI_sub, s_i_ne, s_i_eq, s_i_2, s_l_1, s_l_ne, s_l_eq, s_p_ne, s_p_eq, s_p_2, s_q_1, s_q_ne, s_q_eq, u_ne, u_eq, v_ne, v_eq, w_ne, w_eq, jI_at_in, jL_at_in, false_or, or_false, true_or, or_true, true_and, and_true, false_and, and_false, not_true_eq_false, not_false_eq_true, ↓reduceIte, Option.bind_some, Option.map_some]; exact u3
      · simp (disch := first | assumption | decide | omega) only [nI_lit, cT_lt, cF_lt, cT_le, cF_le, cT_eq, cF_eq, nF_le, mF_eq, mG_eq, mT_lt, eq_self, nI_clamp, nI_add, Nat.add_zero, nI_sub, s_i_ne, s_i_eq, s_i_2, s_l_1, s_l_ne, s_l_eq, s_p_ne, s_p_eq, s_p_2, s_q_1, s_q_ne, s_q_eq, u_ne, u_eq, v_ne, v_eq, w_ne, w_eq, jI_at_in, jL_at_in, false_or, or_false, true_or, or_true, true_and, and_true, false_and, and_false, not_true_eq_false, not_false_eq_true, ↓reduceIte, Option.bind_some, Option.map_some]; exact u4
      · simp (disch := first | assumption | decide | omega) only [nI_lit, cT_lt, cF_lt, cT_le, cF_le, cT_eq, cF_eq, nF_le, mF_eq, mG_eq, mT_lt, eq_self, nI_clamp, nI_add, Nat.add_zero, nI_sub, s_i_ne, s_i_eq, s_i_2, s_l_1, s_l_ne, s_l_eq, s_p_ne, s_p_eq, s_p_2, s_q_1, s_q_ne, s_q_eq, u_ne, u_eq, v_ne, v_eq, w_ne, w_eq, jI_at_in, jL_at_in, false_or, or_false, true_or, or_true, true_and, and_true, false_and, and_false, not_true_eq_false, not_false_eq_true, ↓reduceIte, Option.bind_some, Option.map_some]; exact u5
      · simp (disch := first | assumption | decide | omega) only [nI_lit, cT_lt, cF_lt, cT_le, cF_le, cT_eq, cF_eq, nF_le, mF_eq, mG_eq, mT_lt, eq_self, nI_clamp, nI_add, Nat.add_zero, nI_sub, s_i_ne, s_i_eq, s_i_2, s_l_1, s_l_ne, s_l_eq, s_p_ne, s_p_eq, s_p_2, s_q_1, s_q_ne, s_q_eq, u_ne, u_eq, v_ne, v_eq, w_ne, w_eq, jI_at_in, jL_at_in, false_or, or_false, true_or, or_true, true_and, and_true, false_and, and_false, not_true_eq_false, not_false_eq_true, ↓reduceIte, Option.bind_some, Option.map_some]; exact u6
  · unfold RPa at h3 ⊢
    unfold cAdd rAdd
    simp (disch := first | assumption | decide | omega) only [nI_lit, cT_lt, cF_lt, cT_le, cF_le, cT_eq, cF_eq, nF_le, mF_eq, mG_eq, mT_lt, eq_self, nI_clamp, nI_add, Nat.add_zero, nI_sub, s_i_ne, s_i_eq, s_i_2, s_l_1, s_l_ne, s_l_eq, s_p_ne, s_p_eq, s_p_2, s_q_1, s_q_ne, s_q_eq, u_ne, u_eq, v_ne, v_eq, w_ne, w_eq, jI_at_in, jL_at_in, false_or, or_false, true_or, or_true, true_and, and_true, false_and, and_false, not_true_eq_false, not_false_eq_true, ↓reduceIte, Option.bind_some, Option.map_some]
    exact h3
  · unfold RGo at h4 ⊢
    unfold cAdd rAdd
    simp (disch := first | assumption | decide | omega) only [nI_lit, cT_lt, cF_lt, cT_le, cF_le, cT_eq, cF_eq, nF_le, mF_eq, mG_eq, mT_lt, eq_self, nI_clamp, nI_add, Nat.add_zero, nI_sub, s_i_ne, s_i_eq, s_i_2, s_l_1, s_l_ne, s_l_eq, s_p_ne, s_p_eq, s_p_2, s_q_1, s_q_ne, s_q_eq, u_ne, u_eq, v_ne, v_eq, w_ne, w_eq, jI_at_in, jL_at_in, false_or, or_false, true_or, or_true, true_and, and_true, false_and, and_false, not_true_eq_false, not_false_eq_true, ↓reduceIte, Option.bind_some, Option.map_some]
    exact h4
  · unfold RLo at h5 ⊢
    unfold cAdd rAdd
    simp (disch := first | assumption | decide | omega) only [nI_lit, cT_lt, cF_lt, cT_le, cF_le, cT_eq, cF_eq, nF_le, mF_eq, mG_eq, mT_lt, eq_self, nI_clamp, nI_add, Nat.add_zero, nI_sub, s_i_ne, s_i_eq, s_i_2, s_l_1, s_l_ne, s_l_eq, s_p_ne, s_p_eq, s_p_2, s_q_1, s_q_ne, s_q_eq, u_ne, u_eq, v_ne, v_eq, w_ne, w_eq, jI_at_in, jL_at_in, false_or, or_false, true_or, or_true, true_and, and_true, false_and, and_false, not_true_eq_false, not_false_eq_true, ↓reduceIte, Option.bind_some, Option.map_some]
    exact h5
  · unfold cAdd; simp (disch := first | assumption | decide | omega) only [h6, nI_lit, cT_lt, cF_lt, cT_le, cF_le, cT_eq, cF_eq, nF_le, mF_eq, mG_eq, mT_lt, eq_self, nI_clamp, nI_add, Nat.add_zero, nI_sub, s_i_ne, s_i_eq, s_i_2, s_l_1, s_l_ne, s_l_eq, s_p_ne, s_p_eq, s_p_2, s_q_1, s_q_ne, s_q_eq, u_ne, u_eq, v_ne, v_eq, w_ne, w_eq, jI_at_in, jL_at_in, false_or, or_false, true_or, or_true, true_and, and_true, false_and, and_false, not_true_eq_false, not_false_eq_true, ↓reduceIte, Option.bind_some, Option.map_some]
  · unfold rAdd; simp (disch := first | assumption | decide | omega) only [h7, nI_lit, cT_lt, cF_lt, cT_le, cF_le, cT_eq, cF_eq, nF_le, mF_eq, mG_eq, mT_lt, eq_self, nI_clamp, nI_add, Nat.add_zero, nI_sub, s_i_ne, s_i_eq, s_i_2, s_l_1, s_l_ne, s_l_eq, s_p_ne, s_p_eq, s_p_2, s_q_1, s_q_ne, s_q_eq, u_ne, u_eq, v_ne, v_eq, w_ne, w_eq, jI_at_in, jL_at_in, false_or, or_false, true_or, or_true, true_and, and_true, false_and, and_false, not_true_eq_false, not_false_eq_true, ↓reduceIte, Option.bind_some, Option.map_some]
  · rw [CPF_f CPF_add]; exact h8
  · unfold rAdd; simp (disch := first | assumption | decide | omega) only [h9, nI_lit, cT_lt, cF_lt, cT_le, cF_le, cT_eq, cF_eq, nF_le, mF_eq, mG_eq, mT_lt, eq_self, nI_clamp, nI_add, Nat.add_zero, nI_sub, s_i_ne, s_i_eq, s_i_2, s_l_1, s_l_ne, s_l_eq, s_p_ne, s_p_eq, s_p_2, s_q_1, s_q_ne, s_q_eq, u_ne, u_eq, v_ne, v_eq, w_ne, w_eq, jI_at_in, jL_at_in, false_or, or_false, true_or, or_true, true_and, and_true, false_and, and_false, not_true_eq_false, not_false_eq_true, ↓reduceIte, Option.bind_some, Option.map_some]
theorem suc_add {E : jEn} {G : jGh} {F : Nat} {nS pN bN lN' : Nat → Nat} {ty : Nat → Nat → Nat} {W : Nat → Nat} {D : Nat → jDs} {tk LO : Nat → Nat} {sl sp : Nat → Nat → Nat} {H : jHp} {φ q c d : Nat} {gd : Nat → Prop} {τ ρ : jx_S} (h : PO E G F nS pN bN lN' ty W D tk LO sl sp H φ gd q τ ρ) (hφ : φ < jFn H) (hc1 : nS (jFf H φ) ≤ c) (hc2 : c < nS (jFf H φ + 1)) (hc : c < 1200) (hW : W c < 2) (hv : ∀ s, gV G c s → jLb H φ s) (ho : ∀ c', LO c ≤ c' → c' ≤ c → jOw H c' φ = 2 * d + 1) (hk : dK (D c) = 28 → 0 < dM (D c)) (hn : jPn H < 3000) : PSuc E G F nS pN bN lN' ty W D tk LO sl sp H φ gd q c τ ρ (3, nI (jPn H)) (cAdd τ (jPn H) c (jFb H φ)) (rAdd ρ (jPn H) c (jFb H φ)) := by
  have hp := PO_add h hφ hc1 hc2 hc hW hv ho hk hn
  refine ⟨CPF_add, fun u hu => ⟨hAdd LO H c φ, u, 0, ⟨HX_add, ⟨rfl, rfl, rfl, fun i hi => ⟨if_neg (by omega), rfl⟩, fun i h1 h2 => ?_, ⟨Nat.le_refl _, Nat.le_succ _⟩, hn⟩, fun c' ψ hz => if_neg hz, Or.inr (Or.inr (Or.inr (Or.inl ⟨rfl, jPn H, Nat.lt_succ_self _, rfl, ?_⟩)))⟩, fun _ _ => rfl, ?_, ?_, fun _ _ => rfl, fun j _ => ?_, Nat.zero_le _⟩⟩
  · have h2' : i < jPn H + 1 := h2
    exact if_pos (by omega)
  · show W (if jPn H = jPn H then c else jPk H (jPn H)) = W c
    rw [if_pos rfl]
  · have e : (fun x => gd x ∨ (jAn H ≤ x ∧ x < jAn (hAdd LO H c φ))) = gd := by
      funext x
      exact propext ⟨fun q => by
        rcases q with q | q
        · exact q
        · have h3 : x < jAn H := q.2
          omega, Or.inl⟩
    rw [e]; exact PO_sim hp hu
  · exact RPF_trans RPF_add ⟨fun r _ => by rw [hu.1], fun j _ => by rw [hu.1], fun r hr => hu.2.1 r (fun z => hr (by rw [z]; decide))⟩
  · rw [hu.1]; unfold rAdd; simp (disch := first | assumption | decide | omega) only [nI_lit, cT_lt, cF_lt, cT_le, cF_le, cT_eq, cF_eq, nF_le, mF_eq, mG_eq, mT_lt, eq_self, nI_clamp, nI_add, Nat.add_zero, nI_sub, s_i_ne, s_i_eq, s_i_2, s_l_1, s_l_ne, s_l_eq, s_p_ne, s_p_eq, s_p_2, s_q_1, s_q_ne, s_q_eq, u_ne, u_eq, v_ne, v_eq, w_ne, w_eq, jI_at_in, jL_at_in, false_or, or_false, true_or, or_true, true_and, and_true, false_and, and_false, not_true_eq_false, not_false_eq_true, ↓reduceIte, Option.bind_some, Option.map_some]
/-- no room for one more that is put off -/
theorem po_full {E : jEn} {G : jGh} {F : Nat} {nS pN bN lN' : Nat → Nat} {ty : Nat → Nat → Nat} {W : Nat → Nat} {D : Nat → jDs} {tk LO : Nat → Nat} {sl sp : Nat → Nat → Nat} {g c b : Nat} {τ ρ : jx_S} (hN : RNd E G F nS pN bN lN' ty W D tk LO sl sp g τ ρ c) (hk : dK (D c) ≠ 2 ∧ dK (D c) ≠ 13 ∧ (dK (D c) = 28 → 0 < dM (D c))) (hW : W c < 2) (h12 : τ.1 9 12 = nI 3000) (h67 : ρ.1 106 67 = nI 3000) (rec : Int32 → Int32 → jx_S → Option (Int64 × jx_S)) (w : Int32) : p_cMac_putOff_91 rec (nI (c + 1)) w τ = some (0, jx_i τ 8 14 5) ∧ p_r_putOne (nI c) (nI b) ρ = some (0, jx_i ρ 106 87 5) := by
  obtain ⟨hA, hT, hW14, h37, h124, _⟩ := hN
  obtain ⟨a1, a2, a3, a4, a5, a6, a7, a8, a9, a10, a11, a12, a13, a14, a15, a16, a17, a18, a19, a20, a21, a22, a23, a24⟩ := hA
  have hk1 := ot_ne1 hT
  clear hT a16 a17 a18 a19 a20 a21 a22 a23 a24
  have hni : ¬ (nI c < 0 ∨ 3000 ≤ c) := fun z => by
    rcases z with z | z
    · exact nI_pos (by omega) z
    · omega
  constructor
  · unfold p_cMac_putOff_91
    rw [jI_at_in (by omega) (by omega), h37, c_isBase τ hW14, if_pos hW, if_pos (by decide), h12, if_neg (show ¬ ¬ nI 3000 = (3000 : Int32) from fun q => q rfl)]
  · have h146 : p_r_putOne_146 (nI c) (nI b) ρ = some (0, jx_i ρ 106 87 5) := by
      unfold p_r_putOne_146
      rw [h67, if_neg (show ¬ ¬ nI 3000 = (3000 : Int32) from fun q => q rfl)]
    have hle : nI (W c) ≤ (1 : Int32) := (nI_le (by omega) (by omega) : nI (W c) ≤ nI 1)
    have h119 : p_r_putOne_119 (nI c) (nI b) ρ = some (0, jx_i ρ 106 87 5) := by
      unfold p_r_putOne_119
      rw [nI_clamp (show c < 2 ^ 31 by omega), if_neg hni, if_neg hni, h124, if_pos hle, h146]
      split <;> rfl
    unfold p_r_putOne
    rw [nI_clamp (show c < 2 ^ 31 by omega), if_neg hni, if_neg hni, if_neg hni, if_neg hni, if_neg hni, if_neg hni, h119, a6]
    by_cases z : 28 ≤ dK (D c)
    · obtain ⟨e3, e4, _⟩ := a13 z
      rw [if_pos z, if_pos (by decide), if_pos (by decide), if_neg (fun q => q rfl), e3]
      by_cases y : dM (D c) = 0
      · have k29 : dK (D c) = 29 := by
          have := hk.2.2
          omega
        rw [y, if_neg (fun q => q rfl), (a15 k29).1, if_neg (by decide), h124, if_pos hle]
      · rw [if_pos (nI_ne0 (by omega) (by omega))]
    · rw [if_neg z, if_pos (show ¬ nI (dK (D c)) = (2 : Int32) from fun q => hk.1 ((nI_eq (b := 2) (by omega) (by omega)).1 q)), if_pos (show ¬ nI (dK (D c)) = (13 : Int32) from fun q => hk.2.1 ((nI_eq (b := 13) (by omega) (by omega)).1 q)), if_pos (show ¬ nI (dK (D c)) = (1 : Int32) from fun q => by
        exact hk1 ((nI_eq (b := 1) (by omega) (by omega)).1 q))]
/-- the end, in both at once -/
theorem ful_now {E : jEn} {G : jGh} {F : Nat} {nS pN bN lN' : Nat → Nat} {ty : Nat → Nat → Nat} {W : Nat → Nat} {D : Nat → jDs} {tk LO : Nat → Nat} {sl sp : Nat → Nat → Nat} {H : jHp} {φ q c : Nat} {gd : Nat → Prop} {τ ρ : jx_S} (h : PO E G F nS pN bN lN' ty W D tk LO sl sp H φ gd q τ ρ) : PFul LO H φ gd c τ ρ (jx_i τ 8 14 5) (jx_i ρ 106 87 5) := by
  refine ⟨⟨fun r hr => ?_, fun j hj => ?_, fun j hj => ?_, fun _ _ => rfl⟩, by simp (disch := first | assumption | decide | omega) only [nI_lit, cT_lt, cF_lt, cT_le, cF_le, cT_eq, cF_eq, nF_le, mF_eq, mG_eq, mT_lt, eq_self, nI_clamp, nI_add, Nat.add_zero, nI_sub, s_i_ne, s_i_eq, s_i_2, s_l_1, s_l_ne, s_l_eq, s_p_ne, s_p_eq, s_p_2, s_q_1, s_q_ne, s_q_eq, u_ne, u_eq, v_ne, v_eq, w_ne, w_eq, jI_at_in, jL_at_in, false_or, or_false, true_or, or_true, true_and, and_true, false_and, and_false, not_true_eq_false, not_false_eq_true, ↓reduceIte, Option.bind_some, Option.map_some], fun u hu => ⟨H, u, 0, ⟨rfl, rfl, rfl, fun _ _ => ⟨rfl, rfl⟩, fun i h1 h2 => by omega, ⟨Nat.le_refl _, Nat.le_refl _⟩, h.2.2.2.2.2.2.1.2.1.1⟩, fun N x3 => ?_, ?_, ?_, ?_, Nat.zero_le _⟩⟩
  · simp only [List.mem_cons, List.not_mem_nil, or_false, not_or] at hr
    rw [s_i_ne hr.1]
  · rw [s_i_eq, u_ne hj]
  · rw [s_i_ne (by decide)]
  · refine jx_loop_out (X := some (x3, u)) ?_ N
    show p_r_putOff_12_s (nI (jFb H φ)) x3 u = _
    unfold p_r_putOff_12_s
    have h87 : u.1 106 87 = 5 := by rw [hu.1]; simp (disch := first | assumption | decide | omega) only [nI_lit, cT_lt, cF_lt, cT_le, cF_le, cT_eq, cF_eq, nF_le, mF_eq, mG_eq, mT_lt, eq_self, nI_clamp, nI_add, Nat.add_zero, nI_sub, s_i_ne, s_i_eq, s_i_2, s_l_1, s_l_ne, s_l_eq, s_p_ne, s_p_eq, s_p_2, s_q_1, s_q_ne, s_q_eq, u_ne, u_eq, v_ne, v_eq, w_ne, w_eq, jI_at_in, jL_at_in, false_or, or_false, true_or, or_true, true_and, and_true, false_and, and_false, not_true_eq_false, not_false_eq_true, ↓reduceIte, Option.bind_some, Option.map_some]
    rw [h87]
    by_cases z : u.1 106 101 ≤ 0
    · rw [if_pos z]
    · rw [if_neg z, if_pos (by decide)]
  · rw [hu.1]; simp (disch := first | assumption | decide | omega) only [nI_lit, cT_lt, cF_lt, cT_le, cF_le, cT_eq, cF_eq, nF_le, mF_eq, mG_eq, mT_lt, eq_self, nI_clamp, nI_add, Nat.add_zero, nI_sub, s_i_ne, s_i_eq, s_i_2, s_l_1, s_l_ne, s_l_eq, s_p_ne, s_p_eq, s_p_2, s_q_1, s_q_ne, s_q_eq, u_ne, u_eq, v_ne, v_eq, w_ne, w_eq, jI_at_in, jL_at_in, false_or, or_false, true_or, or_true, true_and, and_true, false_and, and_false, not_true_eq_false, not_false_eq_true, ↓reduceIte, Option.bind_some, Option.map_some]
  · obtain ⟨p1, p2, p3⟩ := h.2.1
    refine ⟨by simp (disch := first | assumption | decide | omega) only [p1, nI_lit, cT_lt, cF_lt, cT_le, cF_le, cT_eq, cF_eq, nF_le, mF_eq, mG_eq, mT_lt, eq_self, nI_clamp, nI_add, Nat.add_zero, nI_sub, s_i_ne, s_i_eq, s_i_2, s_l_1, s_l_ne, s_l_eq, s_p_ne, s_p_eq, s_p_2, s_q_1, s_q_ne, s_q_eq, u_ne, u_eq, v_ne, v_eq, w_ne, w_eq, jI_at_in, jL_at_in, false_or, or_false, true_or, or_true, true_and, and_true, false_and, and_false, not_true_eq_false, not_false_eq_true, ↓reduceIte, Option.bind_some, Option.map_some], by rw [hu.1]; simp (disch := first | assumption | decide | omega) only [p2, nI_lit, cT_lt, cF_lt, cT_le, cF_le, cT_eq, cF_eq, nF_le, mF_eq, mG_eq, mT_lt, eq_self, nI_clamp, nI_add, Nat.add_zero, nI_sub, s_i_ne, s_i_eq, s_i_2, s_l_1, s_l_ne, s_l_eq, s_p_ne, s_p_eq, s_p_2, s_q_1, s_q_ne, s_q_eq, u_ne, u_eq, v_ne, v_eq, w_ne, w_eq, jI_at_in, jL_at_in, false_or, or_false, true_or, or_true, true_and, and_true, false_and, and_false, not_true_eq_false, not_false_eq_true, ↓reduceIte, Option.bind_some, Option.map_some], fun i hi => ?_⟩
    obtain ⟨⟨u1, u2⟩, ⟨u3, u4⟩, ⟨u5, u6⟩, u7, u8⟩ := p3 i hi
    rw [hu.1, hu.2.1 154 (by decide)]
    refine ⟨⟨?_, ?_⟩, ⟨?_, ?_⟩, ⟨?_, ?_⟩, u7, u8⟩
    · simp (disch := first | assumption | decide | omega) only [nI_lit, cT_lt, cF_lt, cT_le, cF_le, cT_eq, cF_eq, nF_le, mF_eq, mG_eq, mT_lt, eq_self, nI_clamp, nI_add, Nat.add_zero, nI_sub, s_i_ne, s_i_eq, s_i_2, s_l_1, s_l_ne, s_l_eq, s_p_ne, s_p_eq, s_p_2, s_q_1, s_q_ne, s_q_eq, u_ne, u_eq, v_ne, v_eq, w_ne, w_eq, jI_at_in, jL_at_in, false_or, or_false, true_or, or_true, true_and, and_true, false_and, and_false, not_true_eq_false, not_false_eq_true, ↓reduceIte, Option.bind_some, Option.map_some]; exact u1
    · simp (disch := first | assumption | decide | omega) only [nI_lit, cT_lt, cF_lt, cT_le, cF_le, cT_eq, cF_eq, nF_le, mF_eq, mG_eq, mT_lt, eq_self, nI_clamp, nI_add, Nat.add_zero, nI_sub, s_i_ne, s_i_eq, s_i_2, s_l_1, s_l_ne, s_l_eq, s_p_ne, s_p_eq, s_p_2, s_q_1, s_q_ne, s_q_eq, u_ne, u_eq, v_ne, v_eq, w_ne, w_eq, jI_at_in, jL_at_in, false_or, or_false, true_or, or_true, true_and, and_true, false_and, and_false, not_true_eq_false, not_false_eq_true, ↓reduceIte, Option.bind_some, Option.map_some]; exact u2
    · simp (disch := first | assumption | decide | omega) only [nI_lit, cT_lt, cF_lt, cT_le, cF_le, cT_eq, cF_eq, nF_le, mF_eq, mG_eq, mT_lt, eq_self, nI_clamp, nI_add, Nat.add_zero, nI_sub, s_i_ne, s_i_eq, s_i_2, s_l_1, s_l_ne, s_l_eq, s_p_ne, s_p_eq, s_p_2, s_q_1, s_q_ne, s_q_eq, u_ne, u_eq, v_ne, v_eq, w_ne, w_eq, jI_at_in, jL_at_in, false_or, or_false, true_or, or_true, true_and, and_true, false_and, and_false, not_true_eq_false, not_false_eq_true, ↓reduceIte, Option.bind_some, Option.map_some]; exact u3
    · simp (disch := first | assumption | decide | omega) only [nI_lit, cT_lt, cF_lt, cT_le, cF_le, cT_eq, cF_eq, nF_le, mF_eq, mG_eq, mT_lt, eq_self, nI_clamp, nI_add, Nat.add_zero, nI_sub, s_i_ne, s_i_eq, s_i_2, s_l_1, s_l_ne, s_l_eq, s_p_ne, s_p_eq, s_p_2, s_q_1, s_q_ne, s_q_eq, u_ne, u_eq, v_ne, v_eq, w_ne, w_eq, jI_at_in, jL_at_in, false_or, or_false, true_or, or_true, true_and, and_true, false_and, and_false, not_true_eq_false, not_false_eq_true, ↓reduceIte, Option.bind_some, Option.map_some]; exact u4
    · simp (disch := first | assumption | decide | omega) only [nI_lit, cT_lt, cF_lt, cT_le, cF_le, cT_eq, cF_eq, nF_le, mF_eq, mG_eq, mT_lt, eq_self, nI_clamp, nI_add, Nat.add_zero, nI_sub, s_i_ne, s_i_eq, s_i_2, s_l_1, s_l_ne, s_l_eq, s_p_ne, s_p_eq, s_p_2, s_q_1, s_q_ne, s_q_eq, u_ne, u_eq, v_ne, v_eq, w_ne, w_eq, jI_at_in, jL_at_in, false_or, or_false, true_or, or_true, true_and, and_true, false_and, and_false, not_true_eq_false, not_false_eq_true, ↓reduceIte, Option.bind_some, Option.map_some]; exact u5
    · simp (disch := first | assumption | decide | omega) only [nI_lit, cT_lt, cF_lt, cT_le, cF_le, cT_eq, cF_eq, nF_le, mF_eq, mG_eq, mT_lt, eq_self, nI_clamp, nI_add, Nat.add_zero, nI_sub, s_i_ne, s_i_eq, s_i_2, s_l_1, s_l_ne, s_l_eq, s_p_ne, s_p_eq, s_p_2, s_q_1, s_q_ne, s_q_eq, u_ne, u_eq, v_ne, v_eq, w_ne, w_eq, jI_at_in, jL_at_in, false_or, or_false, true_or, or_true, true_and, and_true, false_and, and_false, not_true_eq_false, not_false_eq_true, ↓reduceIte, Option.bind_some, Option.map_some]; exact u6
  · refine ⟨fun r hr => ?_, fun j hj => ?_, fun r hr => hu.2.1 r (fun z => hr (by rw [z]; decide))⟩
    · simp only [List.mem_cons, List.not_mem_nil, or_false, not_or] at hr
      rw [hu.1, s_i_ne hr.1]
    · simp only [List.mem_cons, List.not_mem_nil, or_false, not_or] at hj
      rw [hu.1, s_i_eq, u_ne hj.2.2.2.1]
