/-! READER, 14: a call: a name and its atoms. -/
theorem PR_link {E : jEn} {f nf a n l : Nat} {sc : List Nat} {G : jGh} {t dn dep : Nat} {τ ρ : jx_S} (h : PR E f nf a n l sc G t dn dep τ ρ) (x : Nat) (v : Int32) (hx : x < n) (hp : τ.1 31 (x + 1) = 0) : PR E f nf a n l sc G t dn dep (jI_put 1201 τ 29 (nI (x + 1)) v) ρ ∧ (∀ n0 l0 s0 t0 dn0, n0 ≤ x → KP f n0 l0 s0 t0 dn0 τ ρ (jI_put 1201 τ 29 (nI (x + 1)) v) ρ) := by
  have hb := PR_bounds h
  obtain ⟨hE, hA, hB, hbd, hS, hT, hN⟩ := id h
  obtain ⟨a0, a1, a2, a3, a4, a5, a6, a7⟩ := id hA
  have e29 : ∀ j, j ≠ x + 1 → (jI_put 1201 τ 29 (nI (x + 1)) v).1 29 j = τ.1 29 j := fun j hj => by simp (disch := first | assumption | decide | omega) only [nI_lit, cT_lt, cF_lt, cT_le, cF_le, cT_eq, cF_eq, nF_le, mF_eq, mG_eq, mT_lt, eq_self, nI_clamp, nI_add, Nat.add_zero, nI_sub, s_i_ne, s_i_eq, s_i_2, s_l_1, s_l_ne, s_l_eq, s_p_ne, s_p_eq, s_p_2, s_q_1, s_q_ne, s_q_eq, u_ne, u_eq, v_ne, v_eq, w_ne, w_eq, jI_at_in, jL_at_in, false_or, or_false, true_or, or_true, true_and, and_true, false_and, and_false, not_true_eq_false, not_false_eq_true, ↓reduceIte, Option.bind_some, Option.map_some]
  refine ⟨⟨hE, ?_, hB, hbd, ?_, ?_, ?_⟩, fun n0 l0 s0 t0 dn0 h0 => ⟨?_, fun _ _ _ _ => rfl, fun _ _ _ _ => rfl, fun _ _ _ _ => rfl, ?_, fun _ _ _ _ => rfl, ?_, fun _ _ _ _ => rfl, fun g _ => ⟨by simp (disch := first | assumption | decide | omega) only [nI_lit, cT_lt, cF_lt, cT_le, cF_le, cT_eq, cF_eq, nF_le, mF_eq, mG_eq, mT_lt, eq_self, nI_clamp, nI_add, Nat.add_zero, nI_sub, s_i_ne, s_i_eq, s_i_2, s_l_1, s_l_ne, s_l_eq, s_p_ne, s_p_eq, s_p_2, s_q_1, s_q_ne, s_q_eq, u_ne, u_eq, v_ne, v_eq, w_ne, w_eq, jI_at_in, jL_at_in, false_or, or_false, true_or, or_true, true_and, and_true, false_and, and_false, not_true_eq_false, not_false_eq_true, ↓reduceIte, Option.bind_some, Option.map_some], rfl⟩, same_p same_rfl (by decide), same_rfl⟩⟩
  · exact ⟨EnvC_keep a0 (by simp (disch := first | assumption | decide | omega) only [nI_lit, cT_lt, cF_lt, cT_le, cF_le, cT_eq, cF_eq, nF_le, mF_eq, mG_eq, mT_lt, eq_self, nI_clamp, nI_add, Nat.add_zero, nI_sub, s_i_ne, s_i_eq, s_i_2, s_l_1, s_l_ne, s_l_eq, s_p_ne, s_p_eq, s_p_2, s_q_1, s_q_ne, s_q_eq, u_ne, u_eq, v_ne, v_eq, w_ne, w_eq, jI_at_in, jL_at_in, false_or, or_false, true_or, or_true, true_and, and_true, false_and, and_false, not_true_eq_false, not_false_eq_true, ↓reduceIte, Option.bind_some, Option.map_some]) (by simp (disch := first | assumption | decide | omega) only [nI_lit, cT_lt, cF_lt, cT_le, cF_le, cT_eq, cF_eq, nF_le, mF_eq, mG_eq, mT_lt, eq_self, nI_clamp, nI_add, Nat.add_zero, nI_sub, s_i_ne, s_i_eq, s_i_2, s_l_1, s_l_ne, s_l_eq, s_p_ne, s_p_eq, s_p_2, s_q_1, s_q_ne, s_q_eq, u_ne, u_eq, v_ne, v_eq, w_ne, w_eq, jI_at_in, jL_at_in, false_or, or_false, true_or, or_true, true_and, and_true, false_and, and_false, not_true_eq_false, not_false_eq_true, ↓reduceIte, Option.bind_some, Option.map_some]) (by simp (disch := first | assumption | decide | omega) only [nI_lit, cT_lt, cF_lt, cT_le, cF_le, cT_eq, cF_eq, nF_le, mF_eq, mG_eq, mT_lt, eq_self, nI_clamp, nI_add, Nat.add_zero, nI_sub, s_i_ne, s_i_eq, s_i_2, s_l_1, s_l_ne, s_l_eq, s_p_ne, s_p_eq, s_p_2, s_q_1, s_q_ne, s_q_eq, u_ne, u_eq, v_ne, v_eq, w_ne, w_eq, jI_at_in, jL_at_in, false_or, or_false, true_or, or_true, true_and, and_true, false_and, and_false, not_true_eq_false, not_false_eq_true, ↓reduceIte, Option.bind_some, Option.map_some]), by simp (disch := first | assumption | decide | omega) only [a1, nI_lit, cT_lt, cF_lt, cT_le, cF_le, cT_eq, cF_eq, nF_le, mF_eq, mG_eq, mT_lt, eq_self, nI_clamp, nI_add, Nat.add_zero, nI_sub, s_i_ne, s_i_eq, s_i_2, s_l_1, s_l_ne, s_l_eq, s_p_ne, s_p_eq, s_p_2, s_q_1, s_q_ne, s_q_eq, u_ne, u_eq, v_ne, v_eq, w_ne, w_eq, jI_at_in, jL_at_in, false_or, or_false, true_or, or_true, true_and, and_true, false_and, and_false, not_true_eq_false, not_false_eq_true, ↓reduceIte, Option.bind_some, Option.map_some], by simp (disch := first | assumption | decide | omega) only [a2, nI_lit, cT_lt, cF_lt, cT_le, cF_le, cT_eq, cF_eq, nF_le, mF_eq, mG_eq, mT_lt, eq_self, nI_clamp, nI_add, Nat.add_zero, nI_sub, s_i_ne, s_i_eq, s_i_2, s_l_1, s_l_ne, s_l_eq, s_p_ne, s_p_eq, s_p_2, s_q_1, s_q_ne, s_q_eq, u_ne, u_eq, v_ne, v_eq, w_ne, w_eq, jI_at_in, jL_at_in, false_or, or_false, true_or, or_true, true_and, and_true, false_and, and_false, not_true_eq_false, not_false_eq_true, ↓reduceIte, Option.bind_some, Option.map_some], by simp (disch := first | assumption | decide | omega) only [a3, nI_lit, cT_lt, cF_lt, cT_le, cF_le, cT_eq, cF_eq, nF_le, mF_eq, mG_eq, mT_lt, eq_self, nI_clamp, nI_add, Nat.add_zero, nI_sub, s_i_ne, s_i_eq, s_i_2, s_l_1, s_l_ne, s_l_eq, s_p_ne, s_p_eq, s_p_2, s_q_1, s_q_ne, s_q_eq, u_ne, u_eq, v_ne, v_eq, w_ne, w_eq, jI_at_in, jL_at_in, false_or, or_false, true_or, or_true, true_and, and_true, false_and, and_false, not_true_eq_false, not_false_eq_true, ↓reduceIte, Option.bind_some, Option.map_some], by simp (disch := first | assumption | decide | omega) only [a4, nI_lit, cT_lt, cF_lt, cT_le, cF_le, cT_eq, cF_eq, nF_le, mF_eq, mG_eq, mT_lt, eq_self, nI_clamp, nI_add, Nat.add_zero, nI_sub, s_i_ne, s_i_eq, s_i_2, s_l_1, s_l_ne, s_l_eq, s_p_ne, s_p_eq, s_p_2, s_q_1, s_q_ne, s_q_eq, u_ne, u_eq, v_ne, v_eq, w_ne, w_eq, jI_at_in, jL_at_in, false_or, or_false, true_or, or_true, true_and, and_true, false_and, and_false, not_true_eq_false, not_false_eq_true, ↓reduceIte, Option.bind_some, Option.map_some], by simp (disch := first | assumption | decide | omega) only [a5, nI_lit, cT_lt, cF_lt, cT_le, cF_le, cT_eq, cF_eq, nF_le, mF_eq, mG_eq, mT_lt, eq_self, nI_clamp, nI_add, Nat.add_zero, nI_sub, s_i_ne, s_i_eq, s_i_2, s_l_1, s_l_ne, s_l_eq, s_p_ne, s_p_eq, s_p_2, s_q_1, s_q_ne, s_q_eq, u_ne, u_eq, v_ne, v_eq, w_ne, w_eq, jI_at_in, jL_at_in, false_or, or_false, true_or, or_true, true_and, and_true, false_and, and_false, not_true_eq_false, not_false_eq_true, ↓reduceIte, Option.bind_some, Option.map_some], by simp (disch := first | assumption | decide | omega) only [a6, nI_lit, cT_lt, cF_lt, cT_le, cF_le, cT_eq, cF_eq, nF_le, mF_eq, mG_eq, mT_lt, eq_self, nI_clamp, nI_add, Nat.add_zero, nI_sub, s_i_ne, s_i_eq, s_i_2, s_l_1, s_l_ne, s_l_eq, s_p_ne, s_p_eq, s_p_2, s_q_1, s_q_ne, s_q_eq, u_ne, u_eq, v_ne, v_eq, w_ne, w_eq, jI_at_in, jL_at_in, false_or, or_false, true_or, or_true, true_and, and_true, false_and, and_false, not_true_eq_false, not_false_eq_true, ↓reduceIte, Option.bind_some, Option.map_some], by simp (disch := first | assumption | decide | omega) only [a7, nI_lit, cT_lt, cF_lt, cT_le, cF_le, cT_eq, cF_eq, nF_le, mF_eq, mG_eq, mT_lt, eq_self, nI_clamp, nI_add, Nat.add_zero, nI_sub, s_i_ne, s_i_eq, s_i_2, s_l_1, s_l_ne, s_l_eq, s_p_ne, s_p_eq, s_p_2, s_q_1, s_q_ne, s_q_eq, u_ne, u_eq, v_ne, v_eq, w_ne, w_eq, jI_at_in, jL_at_in, false_or, or_false, true_or, or_true, true_and, and_true, false_and, and_false, not_true_eq_false, not_false_eq_true, ↓reduceIte, Option.bind_some, Option.map_some]⟩
  · simp (disch := first | assumption | decide | omega) only [nI_lit, cT_lt, cF_lt, cT_le, cF_le, cT_eq, cF_eq, nF_le, mF_eq, mG_eq, mT_lt, eq_self, nI_clamp, nI_add, Nat.add_zero, nI_sub, s_i_ne, s_i_eq, s_i_2, s_l_1, s_l_ne, s_l_eq, s_p_ne, s_p_eq, s_p_2, s_q_1, s_q_ne, s_q_eq, u_ne, u_eq, v_ne, v_eq, w_ne, w_eq, jI_at_in, jL_at_in, false_or, or_false, true_or, or_true, true_and, and_true, false_and, and_false, not_true_eq_false, not_false_eq_true, ↓reduceIte, Option.bind_some, Option.map_some]; exact hS
  · simp (disch := first | assumption | decide | omega) only [nI_lit, cT_lt, cF_lt, cT_le, cF_le, cT_eq, cF_eq, nF_le, mF_eq, mG_eq, mT_lt, eq_self, nI_clamp, nI_add, Nat.add_zero, nI_sub, s_i_ne, s_i_eq, s_i_2, s_l_1, s_l_ne, s_l_eq, s_p_ne, s_p_eq, s_p_2, s_q_1, s_q_ne, s_q_eq, u_ne, u_eq, v_ne, v_eq, w_ne, w_eq, jI_at_in, jL_at_in, false_or, or_false, true_or, or_true, true_and, and_true, false_and, and_false, not_true_eq_false, not_false_eq_true, ↓reduceIte, Option.bind_some, Option.map_some]; exact hT
  · intro k k1 k2
    obtain ⟨u1, u2⟩ := hN k k1 k2
    refine ⟨NodeOK_keep (n := n) (fun j hj => ⟨⟨by simp (disch := first | assumption | decide | omega) only [nI_lit, cT_lt, cF_lt, cT_le, cF_le, cT_eq, cF_eq, nF_le, mF_eq, mG_eq, mT_lt, eq_self, nI_clamp, nI_add, Nat.add_zero, nI_sub, s_i_ne, s_i_eq, s_i_2, s_l_1, s_l_ne, s_l_eq, s_p_ne, s_p_eq, s_p_2, s_q_1, s_q_ne, s_q_eq, u_ne, u_eq, v_ne, v_eq, w_ne, w_eq, jI_at_in, jL_at_in, false_or, or_false, true_or, or_true, true_and, and_true, false_and, and_false, not_true_eq_false, not_false_eq_true, ↓reduceIte, Option.bind_some, Option.map_some], by simp (disch := first | assumption | decide | omega) only [nI_lit, cT_lt, cF_lt, cT_le, cF_le, cT_eq, cF_eq, nF_le, mF_eq, mG_eq, mT_lt, eq_self, nI_clamp, nI_add, Nat.add_zero, nI_sub, s_i_ne, s_i_eq, s_i_2, s_l_1, s_l_ne, s_l_eq, s_p_ne, s_p_eq, s_p_2, s_q_1, s_q_ne, s_q_eq, u_ne, u_eq, v_ne, v_eq, w_ne, w_eq, jI_at_in, jL_at_in, false_or, or_false, true_or, or_true, true_and, and_true, false_and, and_false, not_true_eq_false, not_false_eq_true, ↓reduceIte, Option.bind_some, Option.map_some], by simp (disch := first | assumption | decide | omega) only [nI_lit, cT_lt, cF_lt, cT_le, cF_le, cT_eq, cF_eq, nF_le, mF_eq, mG_eq, mT_lt, eq_self, nI_clamp, nI_add, Nat.add_zero, nI_sub, s_i_ne, s_i_eq, s_i_2, s_l_1, s_l_ne, s_l_eq, s_p_ne, s_p_eq, s_p_2, s_q_1, s_q_ne, s_q_eq, u_ne, u_eq, v_ne, v_eq, w_ne, w_eq, jI_at_in, jL_at_in, false_or, or_false, true_or, or_true, true_and, and_true, false_and, and_false, not_true_eq_false, not_false_eq_true, ↓reduceIte, Option.bind_some, Option.map_some], by simp (disch := first | assumption | decide | omega) only [nI_lit, cT_lt, cF_lt, cT_le, cF_le, cT_eq, cF_eq, nF_le, mF_eq, mG_eq, mT_lt, eq_self, nI_clamp, nI_add, Nat.add_zero, nI_sub, s_i_ne, s_i_eq, s_i_2, s_l_1, s_l_ne, s_l_eq, s_p_ne, s_p_eq, s_p_2, s_q_1, s_q_ne, s_q_eq, u_ne, u_eq, v_ne, v_eq, w_ne, w_eq, jI_at_in, jL_at_in, false_or, or_false, true_or, or_true, true_and, and_true, false_and, and_false, not_true_eq_false, not_false_eq_true, ↓reduceIte, Option.bind_some, Option.map_some], by simp (disch := first | assumption | decide | omega) only [nI_lit, cT_lt, cF_lt, cT_le, cF_le, cT_eq, cF_eq, nF_le, mF_eq, mG_eq, mT_lt, eq_self, nI_clamp, nI_add, Nat.add_zero, nI_sub, s_i_ne, s_i_eq, s_i_2, s_l_1, s_l_ne, s_l_eq, s_p_ne, s_p_eq, s_p_2, s_q_1, s_q_ne, s_q_eq, u_ne, u_eq, v_ne, v_eq, w_ne, w_eq, jI_at_in, jL_at_in, false_or, or_false, true_or, or_true, true_and, and_true, false_and, and_false, not_true_eq_false, not_false_eq_true, ↓reduceIte, Option.bind_some, Option.map_some]⟩, ⟨rfl, rfl, rfl, rfl, rfl, rfl, rfl, rfl, rfl⟩, fun hq => ⟨e29 _ (fun q => hq (by rw [q]; exact hp)), by simp (disch := first | assumption | decide | omega) only [nI_lit, cT_lt, cF_lt, cT_le, cF_le, cT_eq, cF_eq, nF_le, mF_eq, mG_eq, mT_lt, eq_self, nI_clamp, nI_add, Nat.add_zero, nI_sub, s_i_ne, s_i_eq, s_i_2, s_l_1, s_l_ne, s_l_eq, s_p_ne, s_p_eq, s_p_2, s_q_1, s_q_ne, s_q_eq, u_ne, u_eq, v_ne, v_eq, w_ne, w_eq, jI_at_in, jL_at_in, false_or, or_false, true_or, or_true, true_and, and_true, false_and, and_false, not_true_eq_false, not_false_eq_true, ↓reduceIte, Option.bind_some, Option.map_some], rfl, rfl⟩⟩) (fun _ _ => rfl) k2 (by omega) u1, u2.1, CsT_keep u2.2 (fun j _ => by simp (disch := first | assumption | decide | omega) only [nI_lit, cT_lt, cF_lt, cT_le, cF_le, cT_eq, cF_eq, nF_le, mF_eq, mG_eq, mT_lt, eq_self, nI_clamp, nI_add, Nat.add_zero, nI_sub, s_i_ne, s_i_eq, s_i_2, s_l_1, s_l_ne, s_l_eq, s_p_ne, s_p_eq, s_p_2, s_q_1, s_q_ne, s_q_eq, u_ne, u_eq, v_ne, v_eq, w_ne, w_eq, jI_at_in, jL_at_in, false_or, or_false, true_or, or_true, true_and, and_true, false_and, and_false, not_true_eq_false, not_false_eq_true, ↓reduceIte, Option.bind_some, Option.map_some]) rfl rfl (Nat.le_refl _)⟩
  · exact rowsK_put (by omega) (by omega) rowsK_rfl (Or.inr (by omega))
  · exact rowsK_put (by omega) (by omega) rowsK_rfl (Or.inl (by decide))
  · exact rowsK_put (by omega) (by omega) rowsK_rfl (Or.inl (by decide))
def atomK (k : Nat) : Prop := k = 16 ∨ k = 1 ∨ k = 2 ∨ k = 13 ∨ k = 15
theorem q_begins {k : Nat} (σ : jx_S) (hk : k < 100) (h : atomK k) : v_cRea_beginsAtom (nI k) σ = 1 := by
  unfold v_cRea_beginsAtom
  rcases h with h | h | h | h | h <;> subst h <;> rfl
theorem q_begins_no {k : Nat} (σ : jx_S) (hk : k < 100) (h : ¬ atomK k) : v_cRea_beginsAtom (nI k) σ = 0 := by
  unfold atomK at h
  unfold v_cRea_beginsAtom
  simp (disch := first | assumption | decide | omega) only [nI_lit, cT_lt, cF_lt, cT_le, cF_le, cT_eq, cF_eq, nF_le, mF_eq, mG_eq, mT_lt, eq_self, nI_clamp, nI_add, Nat.add_zero, nI_sub, s_i_ne, s_i_eq, s_i_2, s_l_1, s_l_ne, s_l_eq, s_p_ne, s_p_eq, s_p_2, s_q_1, s_q_ne, s_q_eq, u_ne, u_eq, v_ne, v_eq, w_ne, w_eq, jI_at_in, jL_at_in, false_or, or_false, true_or, or_true, true_and, and_true, false_and, and_false, not_true_eq_false, not_false_eq_true, ↓reduceIte, Option.bind_some, Option.map_some]
theorem ro15_go {t tk i : Nat} {σ σ1 σ2 : jx_S} {a k : Nat} (h40 : σ.1 106 40 = nI a) (ha : a < 1202) (h8 : σ.1 108 a = nI k) (hk : k < 100) (h : atomK k) (l1 : p_r_later (nI 15) (nI tk) (nI (i + 1)) σ = some σ1) (l2 : p_r_later (nI 16) (nI 0) (nI 0) σ1 = some σ2) : p_r_readOne (nI 15) (nI tk) (nI i) σ = some σ2 := by
  unfold p_r_readOne p_r_readMore p_r_readMore_371
  rcases h with h | h | h | h | h <;> subst h <;> simp (disch := first | assumption | decide | omega) only [h40, h8, l1, l2, nI_lit, cT_lt, cF_lt, cT_le, cF_le, cT_eq, cF_eq, nF_le, mF_eq, mG_eq, mT_lt, eq_self, nI_clamp, nI_add, Nat.add_zero, nI_sub, s_i_ne, s_i_eq, s_i_2, s_l_1, s_l_ne, s_l_eq, s_p_ne, s_p_eq, s_p_2, s_q_1, s_q_ne, s_q_eq, u_ne, u_eq, v_ne, v_eq, w_ne, w_eq, jI_at_in, jL_at_in, false_or, or_false, true_or, or_true, true_and, and_true, false_and, and_false, not_true_eq_false, not_false_eq_true, ↓reduceIte, Option.bind_some, Option.map_some]
theorem ro15_no {tk i : Nat} {σ : jx_S} {a k : Nat} (h40 : σ.1 106 40 = nI a) (ha : a < 1202) (h8 : σ.1 108 a = nI k) (hk : k < 100) (h : ¬ atomK k) : p_r_readOne (nI 15) (nI tk) (nI i) σ = ((p_r_nameNode (nI tk) (nI i) σ).bind fun q => (p_r_give q.1 q.2).bind fun q2 => some q2) := by
  unfold atomK at h
  unfold p_r_readOne p_r_readMore
  simp (disch := first | assumption | decide | omega) only [h40, h8, ob_id, nI_lit, cT_lt, cF_lt, cT_le, cF_le, cT_eq, cF_eq, nF_le, mF_eq, mG_eq, mT_lt, eq_self, nI_clamp, nI_add, Nat.add_zero, nI_sub, s_i_ne, s_i_eq, s_i_2, s_l_1, s_l_ne, s_l_eq, s_p_ne, s_p_eq, s_p_2, s_q_1, s_q_ne, s_q_eq, u_ne, u_eq, v_ne, v_eq, w_ne, w_eq, jI_at_in, jL_at_in, false_or, or_false, true_or, or_true, true_and, and_true, false_and, and_false, not_true_eq_false, not_false_eq_true, ↓reduceIte, Option.bind_some, Option.map_some]
/-- what is known when some atoms of a name are read -/
def Atoms (E : jEn) (f n0 l0 : Nat) (sc : List Nat) (dn : Nat) (cs : Nat → Nat) (i n l : Nat) (G : jGh) (τ ρ : jx_S) : Prop := (∀ q, q < i → ρ.1 141 (dn + q) = nI (cs q)) ∧ (∀ q, q < i → cs q < n ∧ n0 ≤ cs q ∧ (0 < q → cs (q - 1) < cs q) ∧ τ.1 31 (cs q + 1) = 0 ∧ τ.1 29 (cs q + 1) = nI (if q + 1 < i then cs (q + 1) + 1 else 0) ∧ ρ.1 121 (cs q) = nI (if q = 0 then n0 else cs (q - 1) + 1) ∧ ρ.1 122 (cs q) = -1 ∧ (∀ s, gV G (cs q) s → s ∈ sc) ∧ gB G (cs q) = (if q = 0 then l0 else gD G (cs (q - 1)))) ∧ (i = 0 → n = n0 ∧ l = l0) ∧ (0 < i → cs (i - 1) + 1 = n ∧ gD G (cs (i - 1)) = l)
/-- one atom more -/
theorem Atoms_add {E : jEn} {f nf a n l : Nat} {sc : List Nat} {G : jGh} {t dn dep : Nat} {τ ρ : jx_S} {n0 l0 i t2 : Nat} {cs : Nat → Nat} {a' n' l' : Nat} {G' : jGh} {τ' ρ' τ1 ρ1 : jx_S} (hA : Atoms E f n0 l0 sc dn cs i n l G τ ρ) (hK1 : KP f n l sc.length t (dn + i) τ ρ τ1 ρ1) (hD : Done E f nf a n l sc G t2 (dn + i) dep τ1 ρ1 a' n' l' G' τ' ρ') (ht2 : t ≤ t2) (hn0 : n0 ≤ n) (hn : n' < 1201) :
    Atoms E f n0 l0 sc dn (fun q => if q = i then n' - 1 else cs q) (i + 1) n' l' G' (if i = 0 then τ' else jI_put 1201 τ' 29 (nI (cs (i - 1) + 1)) (nI n')) ρ' := by
  obtain ⟨h1, h2, h3, h4⟩ := hA
  obtain ⟨d1, d2, d3, d4, d5, d6, d7, d8, d9, d10⟩ := hD
  have hcs : ∀ q, q ≠ i → (fun q => if q = i then n' - 1 else cs q) q = cs q := fun q hq => if_neg hq
  have hci : (fun q => if q = i then n' - 1 else cs q) i = n' - 1 := if_pos rfl
  have KK : KP f n l sc.length t (dn + i) τ ρ τ' ρ' := KP_trans hK1 d6 (Nat.le_refl _) (Nat.le_refl _) (Nat.le_refl _) ht2 (Nat.le_refl _)
  have ne29 : ∀ k, k ≠ 29 → (if i = 0 then τ' else jI_put 1201 τ' 29 (nI (cs (i - 1) + 1)) (nI n')).1 k = τ'.1 k := fun k hk => by
    split
    · rfl
    · rw [s_p_ne hk]
  obtain ⟨u1, u2, u3, u4, u5, u6, u7⟩ := d8
  refine ⟨fun q hq => ?_, fun q hq => ?_, fun q => absurd q (by omega), fun _ => ?_⟩
  · by_cases hqi : q = i
    · subst hqi; rw [hci]; exact d7
    · rw [hcs q hqi, KK.2.2.1 141 (by decide) _ (by omega)]; exact h1 q (by omega)
  · by_cases hqi : q = i
    · subst hqi
      rw [hci, if_neg (show ¬ q + 1 < q + 1 by omega)]
      refine ⟨by omega, by omega, fun hq0 => ?_, ?_, ?_, ?_, u4, u5, ?_⟩
      · rw [hcs (q - 1) (by omega)]; have := (h2 (q - 1) (by omega)).1; omega
      · rw [ne29 31 (by decide)]; exact u2
      · by_cases hq0 : q = 0
        · rw [if_pos hq0]; exact u1
        · have := (h2 (q - 1) (by omega)).1
          rw [if_neg hq0, s_p_eq, jI_up_in (by omega) (by omega), u_ne (by omega)]; exact u1
      · rw [u3]
        by_cases hq0 : q = 0
        · rw [if_pos hq0, (h3 hq0).1]
        · rw [if_neg hq0, hcs (q - 1) (by omega), (h4 (by omega)).1]
      · rw [u6]
        by_cases hq0 : q = 0
        · rw [if_pos hq0, (h3 hq0).2]
        · have hlt := (h2 (q - 1) (by omega)).1
          rw [if_neg hq0, hcs (q - 1) (by omega)]
          unfold gD
          rw [d9 _ hlt]
          exact (h4 (by omega)).2.symm
    · obtain ⟨w1, w2, w3, w4, w5, w6, w7, w8, w9⟩ := h2 q (by omega)
      have gq : G' (cs q) = G (cs q) := d9 _ w1
      rw [hcs q hqi]
      refine ⟨by omega, w2, fun hq0 => ?_, ?_, ?_, ?_, ?_, ?_, ?_⟩
      · rw [hcs (q - 1) (by omega)]; exact w3 hq0
      · rw [ne29 31 (by decide), KK.1 31 (by decide) _ (by omega)]; exact w4
      · by_cases hql : q + 1 = i
        · rw [if_pos (show q + 1 < i + 1 by omega), show (if q + 1 = i then n' - 1 else cs (q + 1)) + 1 = n' by rw [if_pos hql]; omega, if_neg (by omega), s_p_eq, jI_up_in (by have := (h2 (i - 1) (by omega)).1; omega) (by omega), u_eq (by congr 2; omega)]
        · rw [if_pos (show q + 1 < i + 1 by omega), hcs (q + 1) hql, if_neg (show ¬ i = 0 by omega), s_p_eq, jI_up_in (by have := (h2 (i - 1) (by omega)).1; omega) (by omega)]
          have hne : cs q ≠ cs (i - 1) := by
            have inc : ∀ d r, r + d < i → cs r ≤ cs (r + d) := by
              intro d
              induction d with
              | zero => intro r _; exact Nat.le_refl _
              | succ d ih =>
                intro r hr
                have a1 := ih r (by omega)
                have a2 := (h2 (r + (d + 1)) hr).2.2.1 (by omega)
                rw [show r + (d + 1) - 1 = r + d by omega] at a2
                omega
            have a1 := (h2 (q + 1) (by omega)).2.2.1 (by omega)
            rw [Nat.add_sub_cancel] at a1
            have a2 := inc (i - 1 - (q + 1)) (q + 1) (by omega)
            rw [show q + 1 + (i - 1 - (q + 1)) = i - 1 by omega] at a2
            omega
          rw [u_ne (by omega), KK.1 29 (by decide) _ (by omega), w5, if_pos (show q + 1 < i by omega)]
      · rw [KK.2.1 121 (by decide) _ w1, w6]
        by_cases hq0 : q = 0
        · rw [if_pos hq0, if_pos hq0]
        · rw [if_neg hq0, if_neg hq0, hcs (q - 1) (by omega)]
      · rw [KK.2.1 122 (by decide) _ w1]; exact w7
      · unfold gV; rw [gq]; exact w8
      · unfold gB gD at w9 ⊢
        rw [gq, w9]
        by_cases hq0 : q = 0
        · rw [if_pos hq0, if_pos hq0]
        · rw [if_neg hq0, if_neg hq0, hcs (q - 1) (by omega), d9 _ (by have := (h2 (q - 1) (by omega)).1; exact this)]
  · rw [Nat.add_sub_cancel, hci]
    exact ⟨by omega, u7⟩
def callF (rec : Int32 → jx_S → Option (Int32 × jx_S)) : Int32 × Int32 × Int32 × Int32 × Int32 × Int32 × jx_S → Option ((Int32 × Int32 × Int32 × Int32 × Int32 × Int32 × jx_S) ⊕ (Int32 × jx_S)) := fun s => p_cRea_readCall_72_s rec s.1 s.2.1 s.2.2.1 s.2.2.2.1 s.2.2.2.2.1 s.2.2.2.2.2.1 (s.2.2.2.2.2.2)
theorem FR_c {t s x : Nat} {τ ρ τ' : jx_S} (h : FR t s x τ ρ) (e : τ'.1 1 = τ.1 1) (e2 : τ'.1 29 0 = τ.1 29 0 ∧ τ'.1 23 0 = τ.1 23 0) : FR t s x τ' ρ := by
  unfold FR at *
  rw [e, e2.1, e2.2]
  exact h
theorem name_stop {E : jEn} {f nf : Nat} {sc : List Nat} {t dn dep tk : Nat} {rec : Int32 → jx_S → Option (Int32 × jx_S)} {x1 : Int32} {a0 n0 l0 : Nat} {G0 : jGh} {τ0 ρ0 : jx_S} (hrec : RecOK E f nf dep rec) (hx1 : x1 + 1 = nI dep) (ht : t + 3 + 14 * (31 - dep) ≤ 3900) (htk : tk < eC E) (hk : eK E tk = 1) (hsc : ∀ s, s ∈ sc → s < l0) (hdn0 : dn ≤ n0) (hna0 : n0 ≤ a0) {i a n l N : Nat} {G : jGh} {cs : Nat → Nat} {τ ρ : jx_S} (h : PR E f nf a n l sc G (t + 1) (dn + i) dep τ ρ) (h138 : ρ.1 138 t = nI 15) (h139 : ρ.1 139 t = nI tk) (h140 : ρ.1 140 t = nI i) (hK : KP f n0 l0 sc.length t dn τ0 ρ0 τ ρ) (hG : ∀ j, j < n0 → G j = G0 j) (h130 : ρ.1 130 f = ρ0.1 130 f + nI (letc (ρ.1 112) n0 (n - n0))) (hA : Atoms E f n0 l0 sc dn cs i n l G τ ρ) (hdp : 1 ≤ dep ∧ dep ≤ 30) (hAb : ∀ q, q < i → gA G (cs q) ≤ 30 - dep) (hn0 : n0 ≤ n) (hl0 : l0 ≤ l) (ha0 : a0 < a) (hcnt : n - n0 + 1 ≤ a - a0) (hin : i ≤ n - n0) (hN : 0 < N) (hat : ¬ atomK (eK E a)) :
    ∃ v τ' k ρ', jx_loop N (callF rec) (x1, nI tk, nI (if 0 < i then cs 0 + 1 else 0), nI (if 0 < i then cs (i - 1) + 1 else 0), nI i, nI i, τ) = some (v, τ') ∧ RT f k ρ ρ' ∧ ((k ≤ 20 * (eC E - a) + 3 ∧ ∃ t' s x, FR t' s x τ' ρ') ∨ ∃ a' n' l' G', k ≤ 20 * (a' - a) + 1 ∧ v = nI n' ∧ a ≤ a' ∧ Done E f nf a0 n0 l0 sc G0 t dn dep τ0 ρ0 a' n' l' G' τ' ρ') := by
  have hb := PR_bounds h
  obtain ⟨hP, hKp, h130p⟩ := PR_pop h
  have hB := h.2.2.1
  obtain ⟨kc, k1, k2, k3, k4, k5, k6⟩ := kind_ne hP
  obtain ⟨N, rfl⟩ : ∃ M, N = M + 1 := ⟨N - 1, by omega⟩
  obtain ⟨A1, A2, A3, A4⟩ := id hA
  have hnn := name_new (m := i) (tk := tk) (lo := n0) (B0 := l0) (cs := cs) hP (by omega) htk hk (by omega) hdn0 (fun q hq => by rw [s_i_ne (by decide)]; exact A1 q hq) (fun q hq => by
    obtain ⟨w1, w2, w3, w4, w5, w6, w7, w8, w9⟩ := A2 q hq
    exact ⟨w1, w2, w3, w4, w5, by rw [s_i_ne (by decide)]; exact w6, by rw [s_i_ne (by decide)]; exact w7, w8, w9⟩) (fun q hq => by have := hAb q hq; omega) (fun _ => hdp.1) hn0 (fun q => (A3 q).1.symm) (fun q => (A4 q).1) hsc (by
    by_cases hi : i = 0
    · rw [if_pos hi, (A3 hi).2]
    · rw [if_neg hi, (A4 (by omega)).2]) hl0
  generalize gv (rname (jx_i ρ 106 45 (nI t)) cs n i dn tk (nI n0) (rsF E ((jx_i ρ 106 45 (nI t)).1 142) ((jx_i ρ 106 45 (nI t)).1 143) tk sc.length)) dn n = ρ' at hnn
  obtain ⟨τ', G', n1, n2, n3, n4, n5, n6, n7, n8, n9⟩ := hnn
  have hkc : ¬ atomK kc := by unfold atomK at hat ⊢; omega
  refine ⟨nI (n + 1), τ', 1, ρ', ?_, RT_one hB.2.2.1 hB.2.2.2.2.2.2.2.2.1 (by omega) (by rw [h138, h139, h140, ro15_no k3 k4 k2 (by omega) hat]; exact n2), Or.inr ⟨a, n + 1, l, G', by omega, rfl, Nat.le_refl a, ha0, by omega, ⟨by omega, by rw [show n + 1 - 1 = n by omega, n7.2]; split <;> omega⟩, hl0, n3, ?_, n5, n6, fun j hj => ?_, ?_⟩⟩
  · refine jx_loop_out (X := some (nI (n + 1), τ')) ?_ N
    show p_cRea_readCall_72_s rec x1 (nI tk) _ _ (nI i) (nI i) τ = _
    unfold p_cRea_readCall_72_s p_cRea_readCall_135
    rw [k1, q_begins_no τ (by omega) hkc, n1, if_pos (show (0 : Int32) = 0 from rfl)]
    split <;> rfl
  · exact KP_trans (KP_trans hK hKp hn0 hl0 (Nat.le_refl _) (Nat.le_refl _) (by omega)) (n4 n0 l0 sc.length t (Nat.le_refl _)) (Nat.le_refl _) (Nat.le_refl _) (Nat.le_refl _) (Nat.le_refl _) (Nat.le_refl _)
  · rw [n7.1 j (by omega), hG j hj]
  · rw [n8, h130p, h130, show n + 1 - n0 = (n - n0) + 1 by omega, letc_no (fun q => by
      rw [n9, u_eq (by omega)] at q
      exact absurd q (by decide)), n9, letc_congr (g := ρ.1 112) (g' := upd ((jx_i ρ 106 45 (nI t)).1 112) n (nI 1)) (n - n0) (fun j hj => by rw [u_ne (by omega), s_i_ne (by decide)])]
theorem name_loop {E : jEn} {f nf : Nat} {sc : List Nat} {t dn dep tk : Nat} {rec : Int32 → jx_S → Option (Int32 × jx_S)} {x1 : Int32} {a0 n0 l0 : Nat} {G0 : jGh} {τ0 ρ0 : jx_S} (hrec : RecOK E f nf dep rec) (hx1 : x1 + 1 = nI dep) (ht : t + 3 + 14 * (31 - dep) ≤ 3900) (htk : tk < eC E) (hk : eK E tk = 1) (hsc : ∀ s, s ∈ sc → s < l0) (hdn0 : dn ≤ n0) (hna0 : n0 ≤ a0) (hdp : 1 ≤ dep ∧ dep ≤ 30) :
    ∀ w i a n l G cs τ ρ N, eC E - a ≤ w → w + 2 < N → PR E f nf a n l sc G (t + 1) (dn + i) dep τ ρ → ρ.1 138 t = nI 15 → ρ.1 139 t = nI tk → ρ.1 140 t = nI i → KP f n0 l0 sc.length t dn τ0 ρ0 τ ρ → (∀ j, j < n0 → G j = G0 j) → ρ.1 130 f = ρ0.1 130 f + nI (letc (ρ.1 112) n0 (n - n0)) → Atoms E f n0 l0 sc dn cs i n l G τ ρ → (∀ q, q < i → gA G (cs q) ≤ 30 - dep) → n0 ≤ n → l0 ≤ l → a0 < a → n - n0 + 1 ≤ a - a0 → i ≤ n - n0 →
    ∃ v τ' k ρ', jx_loop N (callF rec) (x1, nI tk, nI (if 0 < i then cs 0 + 1 else 0), nI (if 0 < i then cs (i - 1) + 1 else 0), nI i, nI i, τ) = some (v, τ') ∧ RT f k ρ ρ' ∧ ((k ≤ 20 * (eC E - a) + 3 ∧ ∃ t' s x, FR t' s x τ' ρ') ∨ ∃ a' n' l' G', k ≤ 20 * (a' - a) + 1 ∧ v = nI n' ∧ a ≤ a' ∧ Done E f nf a0 n0 l0 sc G0 t dn dep τ0 ρ0 a' n' l' G' τ' ρ') := by
  intro w
  induction w with
  | zero =>
    intro i a n l G cs τ ρ N hw hN h h138 h139 h140 hK hG h130 hA hAb hn0 hl0 ha0 hcnt hin
    have hb := PR_bounds h
    obtain ⟨hP, hKp, h130p⟩ := PR_pop h
    obtain ⟨kc, k1, k2, k3, k4, k5, k6⟩ := kind_ne hP
    exact name_stop hrec hx1 ht htk hk hsc hdn0 hna0 h h138 h139 h140 hK hG h130 hA hdp hAb hn0 hl0 ha0 hcnt hin (by omega) (by unfold atomK; omega)
  | succ w ih =>
    intro i a n l G cs τ ρ N hw hN h h138 h139 h140 hK hG h130 hA hAb hn0 hl0 ha0 hcnt hin
    have hb := PR_bounds h
    obtain ⟨hP, hKp, h130p⟩ := PR_pop h
    have hB := h.2.2.1
    obtain ⟨kc, k1, k2, k3, k4, k5, k6⟩ := kind_ne hP
    rcases Classical.em (atomK (eK E a)) with hat | hat
    rotate_left
    · exact name_stop hrec hx1 ht htk hk hsc hdn0 hna0 h h138 h139 h140 hK hG h130 hA hdp hAb hn0 hl0 ha0 hcnt hin (by omega) hat
    obtain ⟨N, rfl⟩ : ∃ M, N = M + 1 := ⟨N - 1, by omega⟩
    have hkc : kc = eK E a ∧ a < eC E := by unfold atomK at hat; omega
    obtain ⟨l1, l2, l3, l4, l5, l6, l7⟩ := PR_ltr (nI 15) (nI tk) (nI (i + 1)) hP (by omega)
    obtain ⟨m1, m2, m3, m4, m5, m6, m7⟩ := PR_ltr (nI 16) (nI 0) (nI 0) l2 (by omega)
    have hstep : RT f 1 ρ _ := RT_one hB.2.2.1 hB.2.2.2.2.2.2.2.2.1 (by omega) (by rw [h138, h139, h140]; exact ro15_go (t := t) k3 k4 k2 (by omega) hat l1 m1)
    have i0 := m3.2.2.2.1 138 (by decide) t (by omega)
    have i1 := m3.2.2.2.1 139 (by decide) t (by omega)
    have i2 := m3.2.2.2.1 140 (by decide) t (by omega)
    have KK : KP f n l sc.length t (dn + i) τ ρ τ _ := KP_trans (KP_trans hKp l3 (Nat.le_refl _) (Nat.le_refl _) (Nat.le_refl _) (Nat.le_refl _) (Nat.le_refl _)) m3 (Nat.le_refl _) (Nat.le_refl _) (Nat.le_refl _) (by omega) (Nat.le_refl _)
    rw [l5] at i0
    rw [l6] at i1
    rw [l7] at i2
    have q130 := m4.trans (l4.trans h130p)
    generalize ltr (ltr (jx_i ρ 106 45 (nI t)) t (nI 15) (nI tk) (nI (i + 1))) (t + 1) (nI 16) (nI 0) (nI 0) = ρ2 at *
    obtain ⟨v1, τ1, e1, ρ3, z1, z2, z3⟩ := sim_atom hrec hx1 m2 m5 (by omega)
    have hcl : ∀ first last, (callF rec) (x1, nI tk, first, last, nI i, nI i, τ) = if i = 0 then some (.inl (x1, nI tk, v1, v1, nI (i + 1), nI (i + 1), τ1)) else some (.inl (x1, nI tk, first, v1, nI (i + 1), nI (i + 1), jI_put 1201 τ1 29 last v1)) := by
      intro first last
      unfold callF
      dsimp only
      unfold p_cRea_readCall_72_s p_cRea_readCall_122
      rw [k1, hkc.1, q_begins τ (by omega) hat, z1, if_neg (show ¬ (1200 : Int32) ≤ nI i from (nI_ge (by omega) (by omega) : ¬ nI 1200 ≤ nI i)), if_neg (by decide), Option.bind_some, ← nI_succ]
      by_cases hi : i = 0
      · rw [if_pos hi, if_neg (by rw [hi]; decide)]
      · rw [if_neg hi, if_pos (nI_ne0 (by omega) (by omega))]
    rcases z3 with ⟨z3, t', s, x, z4⟩ | ⟨a', n', l', G', z3, z4, hD⟩
    · obtain ⟨N, rfl⟩ : ∃ M, N = M + 1 := ⟨N - 1, by omega⟩
      by_cases hi : i = 0
      · refine ⟨0, τ1, 1 + e1, ρ3, ?_, RT_trans hstep z2, Or.inl ⟨by omega, t', s, x, z4⟩⟩
        rw [jx_loop_inl ((hcl _ _).trans (if_pos hi))]
        exact told_call72 z4.1 _ _ _ _ _ _ N
      · refine ⟨0, jI_put 1201 τ1 29 (nI (if 0 < i then cs (i - 1) + 1 else 0)) v1, 1 + e1, ρ3, ?_, RT_trans hstep z2, Or.inl ⟨by omega, t', s, x, FR_c z4 (s_p_ne (by decide)) (by
          refine ⟨?_, by rw [s_p_ne (by decide)]⟩
          have hlt := (hA.2.1 (i - 1) (by omega)).1
          rw [if_pos (show 0 < i by omega), s_p_eq, jI_up_in (by omega) (by omega), u_ne (by omega)])⟩⟩
        rw [jx_loop_inl ((hcl _ _).trans (if_neg hi))]
        exact told_call72 (τ := jI_put 1201 τ1 29 (nI (if 0 < i then cs (i - 1) + 1 else 0)) v1) (by rw [s_p_ne (by decide)]; exact z4.1) _ _ _ _ _ _ N
    · have hb' := PR_bounds hD.2.2.2.2.1
      have d1 := hD.1
      have d2 := hD.2.1
      have d3 := hD.2.2.1
      have hA' := Atoms_add hA KK hD (Nat.le_succ t) hn0 (by omega)
      have hKD := hD.2.2.2.2.2.1
      have hcs0 : i ≠ 0 → cs (i - 1) < n ∧ n0 ≤ cs (i - 1) := fun hi => ⟨(hA.2.1 (i - 1) (by omega)).1, (hA.2.1 (i - 1) (by omega)).2.1⟩
      have hp0 : i ≠ 0 → τ1.1 31 (cs (i - 1) + 1) = 0 := fun hi => by
        have hlt := (hcs0 hi).1
        rw [hKD.1 31 (by decide) _ (by omega), KK.1 31 (by decide) _ (by omega)]
        exact (hA.2.1 (i - 1) (by omega)).2.2.2.1
      have key : ∃ τn, τn = (if i = 0 then τ1 else jI_put 1201 τ1 29 (nI (cs (i - 1) + 1)) (nI n')) ∧ PR E f nf a' n' l' sc G' (t + 1) (dn + (i + 1)) dep τn ρ3 ∧ KP f n0 l0 sc.length t dn τ1 ρ3 τn ρ3 := by
        by_cases hi : i = 0
        · exact ⟨τ1, (if_pos hi).symm, hD.2.2.2.2.1, KP_refl⟩
        · obtain ⟨w1, w2⟩ := PR_link hD.2.2.2.2.1 (cs (i - 1)) (nI n') (by have := (hcs0 hi).1; omega) (hp0 hi)
          exact ⟨_, (if_neg hi).symm, w1, w2 n0 l0 sc.length t dn (hcs0 hi).2⟩
      obtain ⟨τn, hτn, hPn, hKn⟩ := key
      rw [← hτn] at hA'
      have hKall : KP f n0 l0 sc.length t dn τ0 ρ0 τn ρ3 := KP_trans (KP_trans (KP_trans hK KK hn0 hl0 (Nat.le_refl _) (Nat.le_refl _) (by omega)) hKD hn0 hl0 (Nat.le_refl _) (by omega) (by omega)) hKn (Nat.le_refl _) (Nat.le_refl _) (Nat.le_refl _) (Nat.le_refl _) (Nat.le_refl _)
      have d4 := hD.2.2.2.1
      have hlet : ρ3.1 130 f = ρ0.1 130 f + nI (letc (ρ3.1 112) n0 (n' - n0)) := by
        rw [hD.2.2.2.2.2.2.2.2.2, q130, h130, Int32.add_assoc, nI_add, show n' - n0 = (n - n0) + (n' - n) by omega, letc_add, show n0 + (n - n0) = n by omega, letc_congr (g := ρ.1 112) (g' := ρ3.1 112) (n - n0) (fun j hj => by rw [hKD.2.1 112 (by decide) _ (by omega), KK.2.1 112 (by decide) _ (by omega)])]
      obtain ⟨v, τ', k, ρ', y1, y2, y3⟩ := ih (i + 1) a' n' l' G' _ τn ρ3 N (by omega) (by omega) hPn (by rw [hKD.2.2.2.1 138 (by decide) t (by omega)]; exact i0) (by rw [hKD.2.2.2.1 139 (by decide) t (by omega)]; exact i1) (by rw [hKD.2.2.2.1 140 (by decide) t (by omega)]; exact i2) hKall (fun j hj => by rw [hD.2.2.2.2.2.2.2.2.1 j (by omega), hG j hj]) hlet hA' (fun q hq => by
        by_cases hqi : q = i
        · subst hqi
          show gA G' (if q = q then n' - 1 else cs q) ≤ _
          rw [if_pos rfl]; exact z3.2
        · show gA G' (if q = i then n' - 1 else cs q) ≤ _
          rw [if_neg hqi]
          have hw := hAb q (by omega)
          have hlt := (hA.2.1 q (by omega)).1
          unfold gA at hw ⊢
          rw [hD.2.2.2.2.2.2.2.2.1 _ hlt]; exact hw) (by omega) (by omega) (by omega) (by omega) (by omega)
      refine ⟨v, τ', 1 + e1 + k, ρ', ?_, RT_trans (RT_trans hstep z2) y2, ?_⟩
      · rw [← y1, jx_loop_inl (s1 := (x1, nI tk, nI (if 0 < i + 1 then (fun q => if q = i then n' - 1 else cs q) 0 + 1 else 0), nI (if 0 < i + 1 then (fun q => if q = i then n' - 1 else cs q) (i + 1 - 1) + 1 else 0), nI (i + 1), nI (i + 1), τn)) (by
          rw [hcl, if_pos (show 0 < i + 1 by omega), if_pos (show 0 < i + 1 by omega), Nat.add_sub_cancel, show (fun q => if q = i then n' - 1 else cs q) i = n' - 1 from if_pos rfl, show n' - 1 + 1 = n' by omega, hτn, z4]
          by_cases hi : i = 0
          · rw [if_pos hi, if_pos hi, show (fun q => if q = i then n' - 1 else cs q) 0 = n' - 1 from if_pos hi.symm, show n' - 1 + 1 = n' by omega]
          · rw [if_neg hi, if_neg hi, show (fun q => if q = i then n' - 1 else cs q) 0 = cs 0 from if_neg (fun q => hi q.symm), if_pos (show 0 < i by omega), if_pos (show 0 < i by omega)])]
      · rcases y3 with ⟨y3, y4⟩ | ⟨a2, n2, l2, G2, y3, y4, y5, y6⟩
        · exact Or.inl ⟨by omega, y4⟩
        · exact Or.inr ⟨a2, n2, l2, G2, by omega, y4, by omega, y6⟩
