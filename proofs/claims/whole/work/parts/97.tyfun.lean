/-! TYPING, 14: a function, and all functions. -/
def TyP0 (E : jEn) (F : Nat) (pN bN lN' tk' : Nat → Nat) (ty : Nat → Nat → Nat) (τ ρ : jx_S) : Prop := EnvC E τ ∧ EnvR E ρ ∧ FD E F pN bN lN' tk' ty τ ρ ∧ τ.1 4 10 = nI F ∧ ρ.1 106 38 = nI F ∧ τ.1 1 0 = 0 ∧ ρ.1 106 4 = 0 ∧ τ.1 29 0 = 0
/-- a function to be typed: its root and its nodes -/
def FunT (E : jEn) (G : jGh) (lN' : Nat → Nat) (τ ρ : jx_S) (g nf r : Nat) : Prop := nf ≤ r ∧ r < 1200 ∧ τ.1 51 g = nI (r + 1) ∧ ρ.1 131 g = nI r ∧ ρ.1 121 r = nI nf ∧ τ.1 29 (r + 1) = 0 ∧ τ.1 31 (r + 1) = 0 ∧ ∀ k, nf ≤ k → k ≤ r → NodeS E G τ ρ k ∧ gD G k ≤ lN' g
theorem FunT_keep {E : jEn} {G : jGh} {lN' : Nat → Nat} {τ ρ τ' ρ' : jx_S} {g nf r a b q : Nat} (h : FunT E G lN' τ ρ g nf r) (t : TF a b q τ ρ τ' ρ') : FunT E G lN' τ' ρ' g nf r := by
  obtain ⟨h1, h2, h3, h4, h5, h6, h7, h8⟩ := h
  obtain ⟨a1, a2, a3, a4, a5, a6, a7, a8, a9⟩ := id t
  exact ⟨h1, h2, by rw [a1 51 (by decide) (by decide)]; exact h3, by rw [a8 131 (by decide)]; exact h4, by rw [a8 121 (by decide)]; exact h5, by rw [a1 29 (by decide) (by decide)]; exact h6, by rw [a1 31 (by decide) (by decide)]; exact h7, fun k k1 k2 => ⟨TF_node t (h8 k k1 k2).1, (h8 k k1 k2).2⟩⟩
theorem TyP0_of {E : jEn} {F : Nat} {pN bN lN' tk' : Nat → Nat} {ty : Nat → Nat → Nat} {f : Nat} {τ ρ : jx_S} (h : TyP E F pN bN lN' tk' ty f τ ρ) : TyP0 E F pN bN lN' tk' ty τ ρ := by
  obtain ⟨p1, p2, p3, p4, p5, p6, p7, p8, p9⟩ := h
  exact ⟨p1, p2, p3, p4, p5, p6, p7, p9⟩
/-- the same without the typed function's number and the stack -/
def TF0 (a b : Nat) (τ ρ τ' ρ' : jx_S) : Prop :=
  (∀ r, r ≠ 37 → r ≠ 33 → τ'.1 r = τ.1 r) ∧ τ'.2 = τ.2 ∧ (∀ j, (j < a ∨ b ≤ j) → τ'.1 33 (j + 1) = τ.1 33 (j + 1) ∧ τ'.1 37 (j + 1) = τ.1 37 (j + 1)) ∧ (∀ j, ρ.1 112 j ≠ nI 1 ∨ ρ.1 117 j ≠ -1 → τ'.1 33 (j + 1) = τ.1 33 (j + 1)) ∧
  (∀ j, j ≠ 55 → j ≠ 56 → ρ'.1 106 j = ρ.1 106 j) ∧ (∀ j, (j < a ∨ b ≤ j) → ρ'.1 123 j = ρ.1 123 j ∧ ρ'.1 124 j = ρ.1 124 j) ∧ (∀ r, r ∉ [106, 123, 124, 144, 145] → ρ'.1 r = ρ.1 r) ∧ ρ'.2 = ρ.2
/-- the start of a function: the root is wanted -/
theorem ty_open {a b r v q0 : Nat} {τ ρ : jx_S} (f : Nat) (hr : a ≤ r) (hb : r < b) (hr2 : r < 1200) :
    let τ1 := jI_put 1201 τ 37 (nI (r + 1)) (nI v)
    let ρ1 := jx_i (jx_i (jx_i (jx_i (jx_i ρ 106 56 (nI f)) 106 55 0) 144 0 (nI r)) 145 0 (nI v)) 106 55 (nI 1)
    TF0 a b τ ρ τ1 ρ1 ∧ τ1.1 37 (r + 1) = nI v ∧ ρ1.1 106 55 = nI 1 ∧ ρ1.1 106 56 = nI f ∧ ρ1.1 144 0 = nI r ∧ ρ1.1 145 0 = nI v ∧ (∀ r, r ≠ 37 → τ1.1 r = τ.1 r) ∧ ρ1.1 123 = ρ.1 123 ∧ ρ1.1 124 = ρ.1 124 := by
  intro τ1 ρ1
  have e37 : τ1.1 37 = upd (τ.1 37) (r + 1) (nI v) := by show (jI_put 1201 τ 37 (nI (r + 1)) (nI v)).1 37 = _; rw [s_p_eq, jI_up_in (by omega) (by omega)]
  have eo : ∀ r', r' ≠ 37 → τ1.1 r' = τ.1 r' := fun r' h => s_p_ne h
  have er : ∀ r', r' ∉ [106, 123, 124, 144, 145] → ρ1.1 r' = ρ.1 r' := fun r' hr => by
    simp only [List.mem_cons, List.not_mem_nil, or_false, not_or] at hr
    show (jx_i (jx_i (jx_i (jx_i (jx_i ρ 106 56 (nI f)) 106 55 0) 144 0 (nI r)) 145 0 (nI v)) 106 55 (nI 1)).1 r' = _
    rw [s_i_ne hr.1, s_i_ne hr.2.2.2.2, s_i_ne hr.2.2.2.1, s_i_ne hr.1, s_i_ne hr.1]
  have e3 : ρ1.1 123 = ρ.1 123 ∧ ρ1.1 124 = ρ.1 124 := ⟨by show (jx_i (jx_i (jx_i (jx_i (jx_i ρ 106 56 (nI f)) 106 55 0) 144 0 (nI r)) 145 0 (nI v)) 106 55 (nI 1)).1 123 = _; simp (disch := first | assumption | decide | omega) only [nI_lit, cT_lt, cF_lt, cT_le, cF_le, cT_eq, cF_eq, nF_le, mF_eq, mG_eq, mT_lt, eq_self, nI_clamp, nI_add, Nat.add_zero, nI_sub, s_i_ne, s_i_eq, s_i_2, s_l_1, s_l_ne, s_l_eq, s_p_ne, s_p_eq, s_p_2, s_q_1, s_q_ne, s_q_eq, u_ne, u_eq, v_ne, v_eq, w_ne, w_eq, jI_at_in, jL_at_in, false_or, or_false, true_or, or_true, true_and, and_true, false_and, and_false, not_true_eq_false, not_false_eq_true, ↓reduceIte, Option.bind_some, Option.map_some], by show (jx_i (jx_i (jx_i (jx_i (jx_i ρ 106 56 (nI f)) 106 55 0) 144 0 (nI r)) 145 0 (nI v)) 106 55 (nI 1)).1 124 = _; simp (disch := first | assumption | decide | omega) only [nI_lit, cT_lt, cF_lt, cT_le, cF_le, cT_eq, cF_eq, nF_le, mF_eq, mG_eq, mT_lt, eq_self, nI_clamp, nI_add, Nat.add_zero, nI_sub, s_i_ne, s_i_eq, s_i_2, s_l_1, s_l_ne, s_l_eq, s_p_ne, s_p_eq, s_p_2, s_q_1, s_q_ne, s_q_eq, u_ne, u_eq, v_ne, v_eq, w_ne, w_eq, jI_at_in, jL_at_in, false_or, or_false, true_or, or_true, true_and, and_true, false_and, and_false, not_true_eq_false, not_false_eq_true, ↓reduceIte, Option.bind_some, Option.map_some]⟩
  refine ⟨⟨fun r' h1 _ => eo r' h1, rfl, fun j hj => ⟨by rw [eo 33 (by decide)], by rw [e37, u_ne (by omega)]⟩, fun j _ => by rw [eo 33 (by decide)], fun j h1 h2 => ?_, fun j _ => ⟨by rw [e3.1], by rw [e3.2]⟩, er, rfl⟩, by rw [e37, u_eq rfl], ?_, ?_, ?_, ?_, eo, e3.1, e3.2⟩
  · show (jx_i (jx_i (jx_i (jx_i (jx_i ρ 106 56 (nI f)) 106 55 0) 144 0 (nI r)) 145 0 (nI v)) 106 55 (nI 1)).1 106 j = _; simp (disch := first | assumption | decide | omega) only [nI_lit, cT_lt, cF_lt, cT_le, cF_le, cT_eq, cF_eq, nF_le, mF_eq, mG_eq, mT_lt, eq_self, nI_clamp, nI_add, Nat.add_zero, nI_sub, s_i_ne, s_i_eq, s_i_2, s_l_1, s_l_ne, s_l_eq, s_p_ne, s_p_eq, s_p_2, s_q_1, s_q_ne, s_q_eq, u_ne, u_eq, v_ne, v_eq, w_ne, w_eq, jI_at_in, jL_at_in, false_or, or_false, true_or, or_true, true_and, and_true, false_and, and_false, not_true_eq_false, not_false_eq_true, ↓reduceIte, Option.bind_some, Option.map_some]
  · show (jx_i (jx_i (jx_i (jx_i (jx_i ρ 106 56 (nI f)) 106 55 0) 144 0 (nI r)) 145 0 (nI v)) 106 55 (nI 1)).1 106 55 = _; simp (disch := first | assumption | decide | omega) only [nI_lit, cT_lt, cF_lt, cT_le, cF_le, cT_eq, cF_eq, nF_le, mF_eq, mG_eq, mT_lt, eq_self, nI_clamp, nI_add, Nat.add_zero, nI_sub, s_i_ne, s_i_eq, s_i_2, s_l_1, s_l_ne, s_l_eq, s_p_ne, s_p_eq, s_p_2, s_q_1, s_q_ne, s_q_eq, u_ne, u_eq, v_ne, v_eq, w_ne, w_eq, jI_at_in, jL_at_in, false_or, or_false, true_or, or_true, true_and, and_true, false_and, and_false, not_true_eq_false, not_false_eq_true, ↓reduceIte, Option.bind_some, Option.map_some]
  · show (jx_i (jx_i (jx_i (jx_i (jx_i ρ 106 56 (nI f)) 106 55 0) 144 0 (nI r)) 145 0 (nI v)) 106 55 (nI 1)).1 106 56 = _; simp (disch := first | assumption | decide | omega) only [nI_lit, cT_lt, cF_lt, cT_le, cF_le, cT_eq, cF_eq, nF_le, mF_eq, mG_eq, mT_lt, eq_self, nI_clamp, nI_add, Nat.add_zero, nI_sub, s_i_ne, s_i_eq, s_i_2, s_l_1, s_l_ne, s_l_eq, s_p_ne, s_p_eq, s_p_2, s_q_1, s_q_ne, s_q_eq, u_ne, u_eq, v_ne, v_eq, w_ne, w_eq, jI_at_in, jL_at_in, false_or, or_false, true_or, or_true, true_and, and_true, false_and, and_false, not_true_eq_false, not_false_eq_true, ↓reduceIte, Option.bind_some, Option.map_some]
  · show (jx_i (jx_i (jx_i (jx_i (jx_i ρ 106 56 (nI f)) 106 55 0) 144 0 (nI r)) 145 0 (nI v)) 106 55 (nI 1)).1 144 0 = _; simp (disch := first | assumption | decide | omega) only [nI_lit, cT_lt, cF_lt, cT_le, cF_le, cT_eq, cF_eq, nF_le, mF_eq, mG_eq, mT_lt, eq_self, nI_clamp, nI_add, Nat.add_zero, nI_sub, s_i_ne, s_i_eq, s_i_2, s_l_1, s_l_ne, s_l_eq, s_p_ne, s_p_eq, s_p_2, s_q_1, s_q_ne, s_q_eq, u_ne, u_eq, v_ne, v_eq, w_ne, w_eq, jI_at_in, jL_at_in, false_or, or_false, true_or, or_true, true_and, and_true, false_and, and_false, not_true_eq_false, not_false_eq_true, ↓reduceIte, Option.bind_some, Option.map_some]
  · show (jx_i (jx_i (jx_i (jx_i (jx_i ρ 106 56 (nI f)) 106 55 0) 144 0 (nI r)) 145 0 (nI v)) 106 55 (nI 1)).1 145 0 = _; simp (disch := first | assumption | decide | omega) only [nI_lit, cT_lt, cF_lt, cT_le, cF_le, cT_eq, cF_eq, nF_le, mF_eq, mG_eq, mT_lt, eq_self, nI_clamp, nI_add, Nat.add_zero, nI_sub, s_i_ne, s_i_eq, s_i_2, s_l_1, s_l_ne, s_l_eq, s_p_ne, s_p_eq, s_p_2, s_q_1, s_q_ne, s_q_eq, u_ne, u_eq, v_ne, v_eq, w_ne, w_eq, jI_at_in, jL_at_in, false_or, or_false, true_or, or_true, true_and, and_true, false_and, and_false, not_true_eq_false, not_false_eq_true, ↓reduceIte, Option.bind_some, Option.map_some]
theorem TF0_trans {a b a' b' A B : Nat} {τ ρ τ1 ρ1 τ2 ρ2 : jx_S} (h : TF0 a b τ ρ τ1 ρ1) (k : TF0 a' b' τ1 ρ1 τ2 ρ2) (h1 : A ≤ a) (h2 : A ≤ a') (h3 : b ≤ B) (h4 : b' ≤ B) : TF0 A B τ ρ τ2 ρ2 := by
  obtain ⟨a1, a2, a3, a4, a5, a7, a8, a9⟩ := h
  obtain ⟨b1, b2, b3, b4, b5, b7, b8, b9⟩ := k
  refine ⟨fun r e1 e2 => (b1 r e1 e2).trans (a1 r e1 e2), b2.trans a2, fun j hj => ⟨(b3 j (by omega)).1.trans (a3 j (by omega)).1, (b3 j (by omega)).2.trans (a3 j (by omega)).2⟩, fun j hj => (b4 j (by rw [a8 112 (by decide), a8 117 (by decide)]; exact hj)).trans (a4 j hj), fun j hj hj2 => (b5 j hj hj2).trans (a5 j hj hj2), fun j hj => ⟨(b7 j (by omega)).1.trans (a7 j (by omega)).1, (b7 j (by omega)).2.trans (a7 j (by omega)).2⟩, fun r hr => (b8 r hr).trans (a8 r hr), b9.trans a9⟩
theorem TF0_of {a b q : Nat} {τ ρ τ' ρ' : jx_S} (h : TF a b q τ ρ τ' ρ') : TF0 a b τ ρ τ' ρ' := by
  obtain ⟨a1, a2, a3, a4, a5, a6, a7, a8, a9⟩ := h
  exact ⟨a1, a2, a3, a4, fun j h _ => a5 j h, a7, a8, a9⟩
/-- the state between two functions, put so that the rows above serve -/
theorem TF0_TF {a b : Nat} {τ ρ τ' ρ' : jx_S} (h : TF0 a b τ ρ τ' ρ') : TF a b 0 τ (jx_i ρ 106 56 (ρ'.1 106 56)) τ' ρ' := by
  obtain ⟨a1, a2, a3, a4, a5, a7, a8, a9⟩ := h
  refine ⟨a1, a2, a3, fun j hj => a4 j (by rw [s_i_ne (by decide), s_i_ne (by decide)] at hj; exact hj), fun j hj => ?_, fun j hj => absurd hj (by omega), fun j hj => ⟨by rw [s_i_ne (by decide)]; exact (a7 j hj).1, by rw [s_i_ne (by decide)]; exact (a7 j hj).2⟩, fun r hr => ?_, a9⟩
  · by_cases h56 : j = 56
    · rw [h56]; simp (disch := first | assumption | decide | omega) only [nI_lit, cT_lt, cF_lt, cT_le, cF_le, cT_eq, cF_eq, nF_le, mF_eq, mG_eq, mT_lt, eq_self, nI_clamp, nI_add, Nat.add_zero, nI_sub, s_i_ne, s_i_eq, s_i_2, s_l_1, s_l_ne, s_l_eq, s_p_ne, s_p_eq, s_p_2, s_q_1, s_q_ne, s_q_eq, u_ne, u_eq, v_ne, v_eq, w_ne, w_eq, jI_at_in, jL_at_in, false_or, or_false, true_or, or_true, true_and, and_true, false_and, and_false, not_true_eq_false, not_false_eq_true, ↓reduceIte, Option.bind_some, Option.map_some]
    · rw [s_i_eq, u_ne h56]; exact a5 j hj h56
  · have : r ≠ 106 := fun z => hr (by rw [z]; decide)
    rw [s_i_ne this]; exact a8 r hr
theorem NodeS_56 {E : jEn} {G : jGh} {τ ρ : jx_S} {k : Nat} {v : Int32} (h : NodeS E G τ ρ k) : NodeS E G τ (jx_i ρ 106 56 v) k := NodeS_keep (fun _ _ => rfl) (fun r hr => s_i_ne (fun z => by subst z; revert hr; decide)) (fun _ _ => rfl) h
theorem TyP_56 {E : jEn} {F : Nat} {pN bN lN' tk' : Nat → Nat} {ty : Nat → Nat → Nat} {f : Nat} {τ ρ : jx_S} (h : TyP0 E F pN bN lN' tk' ty τ ρ) : TyP E F pN bN lN' tk' ty f τ (jx_i ρ 106 56 (nI f)) := by
  obtain ⟨p1, p2, p3, p4, p5, p6, p7, p8⟩ := h
  refine ⟨p1, EnvR_keep p2 (s_i_ne (by decide)) (s_i_ne (by decide)) (s_i_ne (by decide)) (s_i_ne (by decide)) (by simp (disch := first | assumption | decide | omega) only [nI_lit, cT_lt, cF_lt, cT_le, cF_le, cT_eq, cF_eq, nF_le, mF_eq, mG_eq, mT_lt, eq_self, nI_clamp, nI_add, Nat.add_zero, nI_sub, s_i_ne, s_i_eq, s_i_2, s_l_1, s_l_ne, s_l_eq, s_p_ne, s_p_eq, s_p_2, s_q_1, s_q_ne, s_q_eq, u_ne, u_eq, v_ne, v_eq, w_ne, w_eq, jI_at_in, jL_at_in, false_or, or_false, true_or, or_true, true_and, and_true, false_and, and_false, not_true_eq_false, not_false_eq_true, ↓reduceIte, Option.bind_some, Option.map_some]), FD_keep p3 (fun _ _ => rfl) (fun r hr => s_i_ne (fun z => by subst z; revert hr; decide)), p4, by simp (disch := first | assumption | decide | omega) only [p5, nI_lit, cT_lt, cF_lt, cT_le, cF_le, cT_eq, cF_eq, nF_le, mF_eq, mG_eq, mT_lt, eq_self, nI_clamp, nI_add, Nat.add_zero, nI_sub, s_i_ne, s_i_eq, s_i_2, s_l_1, s_l_ne, s_l_eq, s_p_ne, s_p_eq, s_p_2, s_q_1, s_q_ne, s_q_eq, u_ne, u_eq, v_ne, v_eq, w_ne, w_eq, jI_at_in, jL_at_in, false_or, or_false, true_or, or_true, true_and, and_true, false_and, and_false, not_true_eq_false, not_false_eq_true, ↓reduceIte, Option.bind_some, Option.map_some], p6, by simp (disch := first | assumption | decide | omega) only [p7, nI_lit, cT_lt, cF_lt, cT_le, cF_le, cT_eq, cF_eq, nF_le, mF_eq, mG_eq, mT_lt, eq_self, nI_clamp, nI_add, Nat.add_zero, nI_sub, s_i_ne, s_i_eq, s_i_2, s_l_1, s_l_ne, s_l_eq, s_p_ne, s_p_eq, s_p_2, s_q_1, s_q_ne, s_q_eq, u_ne, u_eq, v_ne, v_eq, w_ne, w_eq, jI_at_in, jL_at_in, false_or, or_false, true_or, or_true, true_and, and_true, false_and, and_false, not_true_eq_false, not_false_eq_true, ↓reduceIte, Option.bind_some, Option.map_some], by simp (disch := first | assumption | decide | omega) only [nI_lit, cT_lt, cF_lt, cT_le, cF_le, cT_eq, cF_eq, nF_le, mF_eq, mG_eq, mT_lt, eq_self, nI_clamp, nI_add, Nat.add_zero, nI_sub, s_i_ne, s_i_eq, s_i_2, s_l_1, s_l_ne, s_l_eq, s_p_ne, s_p_eq, s_p_2, s_q_1, s_q_ne, s_q_eq, u_ne, u_eq, v_ne, v_eq, w_ne, w_eq, jI_at_in, jL_at_in, false_or, or_false, true_or, or_true, true_and, and_true, false_and, and_false, not_true_eq_false, not_false_eq_true, ↓reduceIte, Option.bind_some, Option.map_some], p8⟩
theorem FunT_56 {E : jEn} {G : jGh} {lN' : Nat → Nat} {τ ρ : jx_S} {g nf r : Nat} {v : Int32} (h : FunT E G lN' τ ρ g nf r) : FunT E G lN' τ (jx_i ρ 106 56 v) g nf r := by
  obtain ⟨h1, h2, h3, h4, h5, h6, h7, h8⟩ := h
  exact ⟨h1, h2, h3, by rw [s_i_ne (by decide)]; exact h4, by rw [s_i_ne (by decide)]; exact h5, h6, h7, fun k k1 k2 => ⟨NodeS_56 (h8 k k1 k2).1, (h8 k k1 k2).2⟩⟩
theorem TyD_56 {E : jEn} {G : jGh} {F : Nat} {pN bN : Nat → Nat} {ty : Nat → Nat → Nat} {f k : Nat} {τ ρ : jx_S} {v : Int32} (h : TyD E G F pN bN ty f τ ρ k) : TyD E G F pN bN ty f τ (jx_i ρ 106 56 v) k := by
  obtain ⟨o, tk, m, lo, s, cs, w, wt, h1, h2, h3, h4, h5, h6, h7⟩ := h
  have e : ∀ r, r ≠ 106 → (jx_i ρ 106 56 v).1 r = ρ.1 r := fun r hr => s_i_ne hr
  refine ⟨o, tk, m, lo, s, cs, w, wt, ?_, fun i hi => ?_, h3, h4, by rw [e 124 (by decide)]; exact h5, by rw [e 117 (by decide), e 123 (by decide)]; exact h6, h7⟩
  · unfold NdS at h1 ⊢
    rw [e 112 (by decide), e 113 (by decide), e 117 (by decide), e 121 (by decide), e 119 (by decide), e 114 (by decide), e 115 (by decide), e 116 (by decide), e 118 (by decide)]
    exact h1
  · have hc := h2 i hi
    unfold NdC at hc ⊢
    rw [e 121 (by decide), e 122 (by decide), e 120 (by decide)]
    exact hc
theorem TyX_0 {a b : Nat} {τ ρ τ1 ρ1 τ2 ρ2 : jx_S} (t : TF0 a b τ ρ τ1 ρ1) (h : TyX τ1 ρ1 τ2 ρ2) : TyX τ ρ τ2 ρ2 := by
  obtain ⟨P, n, h1, h2, h3, h4, h5, h6, h7, h8⟩ := h
  obtain ⟨a1, a2, a3, a4, a5, a7, a8, a9⟩ := t
  exact ⟨P, n, h1, h2, h3, fun r e1 e2 e3 => (h4 r e1 e2 e3).trans (a1 r e1 e2), h5.trans a2, h6, h7, fun r hr => (h8 r hr).trans (a8 r hr)⟩
theorem ty_fun {E : jEn} (hE : EnvOK E) {G : jGh} {F f nf r : Nat} {pN bN lN' tk' : Nat → Nat} {ty : Nat → Nat → Nat} (hF : F ≤ 40) (hf : f < F) {τ ρ : jx_S} (hP : TyP0 E F pN bN lN' tk' ty τ ρ) (hT : FunT E G lN' τ ρ f nf r) :
    (∃ τ' ρ', p_cTyp_checkBody (nI f) τ = some τ' ∧ p_r_types_2_s (nI f) ρ = some (.inr (0, ρ')) ∧ TyX τ ρ τ' ρ') ∨
    (∃ τ' ρ', p_cTyp_checkBody (nI f) τ = some τ' ∧ p_r_types_2_s (nI f) ρ = some (.inl (nI (f + 1), ρ')) ∧ TF0 nf (r + 1) τ ρ τ' ρ' ∧ TyP0 E F pN bN lN' tk' ty τ' ρ' ∧ τ'.1 37 (r + 1) = nI (bN f) ∧ ∀ k, nf ≤ k → k ≤ r → TyD E G F pN bN ty f τ' ρ' k) := by
  obtain ⟨t1, t2, t3, t4, t5, t6, t7, t8⟩ := id hT
  obtain ⟨d1, d2, d3, d4, d5, d6, d7, d8, _⟩ := hP.2.2.1 f hf
  have h38 := hP.2.2.2.2.1
  obtain ⟨o1, o2, o3, o4, o5, o6, o7, o8, o9⟩ := ty_open (τ := τ) (ρ := ρ) (a := nf) (b := r + 1) (r := r) (v := bN f) (q0 := 0) f t1 (by omega) t2
  have hC0 : p_cTyp_checkBody (nI f) τ = p_cTyp_checkBody_36 (nI f) (nI (r + 1)) 0 (jI_put 1201 τ 37 (nI (r + 1)) (nI (bN f))) := by
    unfold p_cTyp_checkBody
    rw [jI_at_in (by omega) (by omega), t3, jI_at_in (by omega) (by omega), d4]
  have hR0 : p_r_types_2_s (nI f) ρ = p_r_types_36 (nI f) (jx_i (jx_i (jx_i (jx_i (jx_i ρ 106 56 (nI f)) 106 55 0) 144 0 (nI r)) 145 0 (nI (bN f))) 106 55 (nI 1)) := by
    unfold p_r_types_2_s
    rw [h38, if_neg (nI_ge hf (by omega)), if_neg (nI_in (show f < 40 by omega) (by omega)), if_neg (nI_in (show f < 40 by omega) (by omega)), nI_clamp (show f < 2 ^ 31 by omega), t4, d5, q_r_want _ 0 _ _ (by simp (disch := first | assumption | decide | omega) only [nI_lit, cT_lt, cF_lt, cT_le, cF_le, cT_eq, cF_eq, nF_le, mF_eq, mG_eq, mT_lt, eq_self, nI_clamp, nI_add, Nat.add_zero, nI_sub, s_i_ne, s_i_eq, s_i_2, s_l_1, s_l_ne, s_l_eq, s_p_ne, s_p_eq, s_p_2, s_q_1, s_q_ne, s_q_eq, u_ne, u_eq, v_ne, v_eq, w_ne, w_eq, jI_at_in, jL_at_in, false_or, or_false, true_or, or_true, true_and, and_true, false_and, and_false, not_true_eq_false, not_false_eq_true, ↓reduceIte, Option.bind_some, Option.map_some]) (by omega), Option.bind_some]
  rw [hC0, hR0]
  generalize jI_put 1201 τ 37 (nI (r + 1)) (nI (bN f)) = τ1 at *
  generalize jx_i (jx_i (jx_i (jx_i (jx_i ρ 106 56 (nI f)) 106 55 0) 144 0 (nI r)) 145 0 (nI (bN f))) 106 55 (nI 1) = ρ1 at *
  have tf := TF0_TF o1
  rw [o4] at tf
  have hP1 := TyP_keep (TyP_56 (f := f) hP) tf
  have hT1 := FunT_keep (FunT_56 (v := nI f) hT) tf
  obtain ⟨u1, u2, u3, u4, u5, u6, u7, u8⟩ := hT1
  have e29 := hP1.2.2.2.2.2.2.2.2
  have hU : Up τ1 0 1 (r + 1) := ⟨by omega, u6, 0, u7, by omega, e29, Or.inr rfl⟩
  have main := ty_sub hE hF hf r nf (bN f) 0 0 1 0 (100000000 - 1 - (r - nf + 1)) (100000000 - 1 - (r - nf + 1)) τ1 ρ1 hP1 u2 u5 u1 u8 (by omega) o2 o3 (by omega) o5 o6 hU (by omega) (by omega) (by omega)
  rw [show 100000000 - 1 - (r - nf + 1) + 1 + (r - nf + 1) = 100000000 by omega] at main
  unfold p_cTyp_checkBody_36 p_r_types_36
  rcases main with ⟨τ2, ρ2, y1, y2, y3⟩ | ⟨τ2, ρ2, y1, y2, y3, y4, y5, y6⟩
  · exact Or.inl ⟨τ2, ρ2, y1, y2, TyX_0 o1 y3⟩
  · refine Or.inr ⟨τ2, ρ2, y1.trans ?_, y2.trans ?_, TF0_trans o1 (TF0_of y3) (Nat.le_refl _) (Nat.le_refl _) (Nat.le_refl _) (Nat.le_refl _), TyP0_of (TyP_keep hP1 y3), y4, y6⟩
    · refine jx_loop_inr (b := τ2) ?_
      show p_cTyp_checkBody_36_s (nI f) (nI 0) (nI (0 + (r - nf + 1))) τ2 = _
      unfold p_cTyp_checkBody_36_s
      split
      · rfl
      · rw [if_pos (show nI 0 = 0 from rfl)]; rfl
    · refine jx_loop_inr (b := Sum.inl (nI (f + 1), ρ2)) ?_
      show p_r_types_36_s (nI f) ρ2 = _
      unfold p_r_types_36_s
      rw [y5, if_pos (by decide), ← nI_succ]
      rfl
