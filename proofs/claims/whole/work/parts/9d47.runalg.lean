/-! RUNS, 47: the list is gone along, to its end. -/
def gks : Nat → jx_S → jx_S → Prop
  | 0, τ, τ' => τ' = τ
  | n + 1, τ, τ' => ∃ τ1, τ.1 8 14 = 0 ∧ ((τ.1 8 11 ≤ 0 ∧ p_cMac_goAlong τ = some τ1) ∨ (¬ τ.1 8 11 ≤ 0 ∧ tk1 τ = some τ1)) ∧ gks n τ1 τ'
theorem gks_of : ∀ {j : Nat} {τ τ' : jx_S}, tks j τ τ' → gks j τ τ' := by
  intro j
  induction j with
  | zero => intro τ τ' h; exact h
  | succ j ih =>
    intro τ τ' h
    obtain ⟨τ1, h1, h2, h3, h4⟩ := h
    exact ⟨τ1, h1, Or.inr ⟨h2, h3⟩, ih h4⟩
theorem gks_add {a b : Nat} {τ τ1 τ2 : jx_S} (h : gks a τ τ1) (k : gks b τ1 τ2) : gks (a + b) τ τ2 := by
  induction a generalizing τ with
  | zero =>
    have : τ1 = τ := h
    subst this
    rw [Nat.zero_add]; exact k
  | succ a ih =>
    obtain ⟨τ', h1, h2, h3⟩ := h
    rw [show a + 1 + b = (a + b) + 1 by omega]
    exact ⟨τ', h1, h2, ih h3⟩
/-- the run is over, in both -/
def FIN (H : jHp) (go : Nat) (τ ρ : jx_S) : Prop := (∃ en, 1 ≤ en ∧ en ≤ 5 ∧ τ.1 8 14 = nI en ∧ ((2 ≤ en ∧ ρ.1 106 87 = nI en) ∨ (en = 1 ∧ ρ.1 106 87 = 0))) ∧ (τ.1 71 0 = ρ.1 106 88 ∧ τ.1 71 4 = ρ.1 106 83 ∧ τ.1 71 8 = ρ.1 106 91 ∧ τ.1 71 9 = ρ.1 106 92) ∧ τ.1 9 11 = ρ.1 106 70 ∧ (jPn H ≤ 3000 ∧ τ.1 9 12 = nI (jPn H) ∧ ρ.1 106 67 = nI (jPn H) ∧ τ.1 9 13 = nI (dnN H) ∧ ∀ i, i < jPn H → ρ.1 153 i = nI (jPs H i) ∧ jPs H i < 3) ∧ (τ.1 71 5 = ρ.1 106 93 ∧ τ.1 71 6 = nI go ∧ ρ.1 106 95 = nI go ∧ go ≤ 50 ∧ τ.1 71 7 = ρ.1 106 96 ∧ (ρ.1 106 96 = 0 ∨ ρ.1 106 96 = 1)) ∧ ∀ i, i < go → τ.1 73 i = ρ.1 167 i
theorem FIN_EN {H : jHp} {go : Nat} {τ ρ : jx_S} (h : EN H go τ ρ) (hg : go ≤ 50) (hel : ∀ i, i < go → τ.1 73 i = ρ.1 167 i) : FIN H go τ (jx_i ρ 106 96 0) := by
  obtain ⟨⟨en, e1, e2, e3, e4⟩, ⟨a1, a2, a3, a4⟩, b, ⟨c1, c2, c3, c4, c5⟩, ⟨d1, d2, d3⟩, f1, f2, f3⟩ := h
  refine ⟨⟨en, by omega, e2, e3, Or.inl ⟨e1, by simp (disch := first | assumption | decide | omega) only [e4, nI_lit, cT_lt, cF_lt, cT_le, cF_le, cT_eq, cF_eq, nF_le, mF_eq, mG_eq, mT_lt, eq_self, nI_clamp, nI_add, Nat.add_zero, nI_sub, s_i_ne, s_i_eq, s_i_2, s_l_1, s_l_ne, s_l_eq, s_p_ne, s_p_eq, s_p_2, s_q_1, s_q_ne, s_q_eq, u_ne, u_eq, v_ne, v_eq, w_ne, w_eq, jI_at_in, jL_at_in, false_or, or_false, true_or, or_true, true_and, and_true, false_and, and_false, not_true_eq_false, not_false_eq_true, ↓reduceIte, Option.bind_some, Option.map_some]⟩⟩, ⟨by simp (disch := first | assumption | decide | omega) only [a1, nI_lit, cT_lt, cF_lt, cT_le, cF_le, cT_eq, cF_eq, nF_le, mF_eq, mG_eq, mT_lt, eq_self, nI_clamp, nI_add, Nat.add_zero, nI_sub, s_i_ne, s_i_eq, s_i_2, s_l_1, s_l_ne, s_l_eq, s_p_ne, s_p_eq, s_p_2, s_q_1, s_q_ne, s_q_eq, u_ne, u_eq, v_ne, v_eq, w_ne, w_eq, jI_at_in, jL_at_in, false_or, or_false, true_or, or_true, true_and, and_true, false_and, and_false, not_true_eq_false, not_false_eq_true, ↓reduceIte, Option.bind_some, Option.map_some], by simp (disch := first | assumption | decide | omega) only [a2, nI_lit, cT_lt, cF_lt, cT_le, cF_le, cT_eq, cF_eq, nF_le, mF_eq, mG_eq, mT_lt, eq_self, nI_clamp, nI_add, Nat.add_zero, nI_sub, s_i_ne, s_i_eq, s_i_2, s_l_1, s_l_ne, s_l_eq, s_p_ne, s_p_eq, s_p_2, s_q_1, s_q_ne, s_q_eq, u_ne, u_eq, v_ne, v_eq, w_ne, w_eq, jI_at_in, jL_at_in, false_or, or_false, true_or, or_true, true_and, and_true, false_and, and_false, not_true_eq_false, not_false_eq_true, ↓reduceIte, Option.bind_some, Option.map_some], by simp (disch := first | assumption | decide | omega) only [a3, nI_lit, cT_lt, cF_lt, cT_le, cF_le, cT_eq, cF_eq, nF_le, mF_eq, mG_eq, mT_lt, eq_self, nI_clamp, nI_add, Nat.add_zero, nI_sub, s_i_ne, s_i_eq, s_i_2, s_l_1, s_l_ne, s_l_eq, s_p_ne, s_p_eq, s_p_2, s_q_1, s_q_ne, s_q_eq, u_ne, u_eq, v_ne, v_eq, w_ne, w_eq, jI_at_in, jL_at_in, false_or, or_false, true_or, or_true, true_and, and_true, false_and, and_false, not_true_eq_false, not_false_eq_true, ↓reduceIte, Option.bind_some, Option.map_some], by simp (disch := first | assumption | decide | omega) only [a4, nI_lit, cT_lt, cF_lt, cT_le, cF_le, cT_eq, cF_eq, nF_le, mF_eq, mG_eq, mT_lt, eq_self, nI_clamp, nI_add, Nat.add_zero, nI_sub, s_i_ne, s_i_eq, s_i_2, s_l_1, s_l_ne, s_l_eq, s_p_ne, s_p_eq, s_p_2, s_q_1, s_q_ne, s_q_eq, u_ne, u_eq, v_ne, v_eq, w_ne, w_eq, jI_at_in, jL_at_in, false_or, or_false, true_or, or_true, true_and, and_true, false_and, and_false, not_true_eq_false, not_false_eq_true, ↓reduceIte, Option.bind_some, Option.map_some]⟩, by simp (disch := first | assumption | decide | omega) only [b, nI_lit, cT_lt, cF_lt, cT_le, cF_le, cT_eq, cF_eq, nF_le, mF_eq, mG_eq, mT_lt, eq_self, nI_clamp, nI_add, Nat.add_zero, nI_sub, s_i_ne, s_i_eq, s_i_2, s_l_1, s_l_ne, s_l_eq, s_p_ne, s_p_eq, s_p_2, s_q_1, s_q_ne, s_q_eq, u_ne, u_eq, v_ne, v_eq, w_ne, w_eq, jI_at_in, jL_at_in, false_or, or_false, true_or, or_true, true_and, and_true, false_and, and_false, not_true_eq_false, not_false_eq_true, ↓reduceIte, Option.bind_some, Option.map_some], ⟨c1, c2, by simp (disch := first | assumption | decide | omega) only [c3, nI_lit, cT_lt, cF_lt, cT_le, cF_le, cT_eq, cF_eq, nF_le, mF_eq, mG_eq, mT_lt, eq_self, nI_clamp, nI_add, Nat.add_zero, nI_sub, s_i_ne, s_i_eq, s_i_2, s_l_1, s_l_ne, s_l_eq, s_p_ne, s_p_eq, s_p_2, s_q_1, s_q_ne, s_q_eq, u_ne, u_eq, v_ne, v_eq, w_ne, w_eq, jI_at_in, jL_at_in, false_or, or_false, true_or, or_true, true_and, and_true, false_and, and_false, not_true_eq_false, not_false_eq_true, ↓reduceIte, Option.bind_some, Option.map_some], c4, fun i hi => ⟨by simp (disch := first | assumption | decide | omega) only [nI_lit, cT_lt, cF_lt, cT_le, cF_le, cT_eq, cF_eq, nF_le, mF_eq, mG_eq, mT_lt, eq_self, nI_clamp, nI_add, Nat.add_zero, nI_sub, s_i_ne, s_i_eq, s_i_2, s_l_1, s_l_ne, s_l_eq, s_p_ne, s_p_eq, s_p_2, s_q_1, s_q_ne, s_q_eq, u_ne, u_eq, v_ne, v_eq, w_ne, w_eq, jI_at_in, jL_at_in, false_or, or_false, true_or, or_true, true_and, and_true, false_and, and_false, not_true_eq_false, not_false_eq_true, ↓reduceIte, Option.bind_some, Option.map_some]; exact (c5 i hi).1, (c5 i hi).2⟩⟩, ⟨by simp (disch := first | assumption | decide | omega) only [d1, f1, nI_lit, cT_lt, cF_lt, cT_le, cF_le, cT_eq, cF_eq, nF_le, mF_eq, mG_eq, mT_lt, eq_self, nI_clamp, nI_add, Nat.add_zero, nI_sub, s_i_ne, s_i_eq, s_i_2, s_l_1, s_l_ne, s_l_eq, s_p_ne, s_p_eq, s_p_2, s_q_1, s_q_ne, s_q_eq, u_ne, u_eq, v_ne, v_eq, w_ne, w_eq, jI_at_in, jL_at_in, false_or, or_false, true_or, or_true, true_and, and_true, false_and, and_false, not_true_eq_false, not_false_eq_true, ↓reduceIte, Option.bind_some, Option.map_some], d2, by simp (disch := first | assumption | decide | omega) only [f2, nI_lit, cT_lt, cF_lt, cT_le, cF_le, cT_eq, cF_eq, nF_le, mF_eq, mG_eq, mT_lt, eq_self, nI_clamp, nI_add, Nat.add_zero, nI_sub, s_i_ne, s_i_eq, s_i_2, s_l_1, s_l_ne, s_l_eq, s_p_ne, s_p_eq, s_p_2, s_q_1, s_q_ne, s_q_eq, u_ne, u_eq, v_ne, v_eq, w_ne, w_eq, jI_at_in, jL_at_in, false_or, or_false, true_or, or_true, true_and, and_true, false_and, and_false, not_true_eq_false, not_false_eq_true, ↓reduceIte, Option.bind_some, Option.map_some], hg, by simp (disch := first | assumption | decide | omega) only [d3, nI_lit, cT_lt, cF_lt, cT_le, cF_le, cT_eq, cF_eq, nF_le, mF_eq, mG_eq, mT_lt, eq_self, nI_clamp, nI_add, Nat.add_zero, nI_sub, s_i_ne, s_i_eq, s_i_2, s_l_1, s_l_ne, s_l_eq, s_p_ne, s_p_eq, s_p_2, s_q_1, s_q_ne, s_q_eq, u_ne, u_eq, v_ne, v_eq, w_ne, w_eq, jI_at_in, jL_at_in, false_or, or_false, true_or, or_true, true_and, and_true, false_and, and_false, not_true_eq_false, not_false_eq_true, ↓reduceIte, Option.bind_some, Option.map_some], Or.inl (by simp (disch := first | assumption | decide | omega) only [nI_lit, cT_lt, cF_lt, cT_le, cF_le, cT_eq, cF_eq, nF_le, mF_eq, mG_eq, mT_lt, eq_self, nI_clamp, nI_add, Nat.add_zero, nI_sub, s_i_ne, s_i_eq, s_i_2, s_l_1, s_l_ne, s_l_eq, s_p_ne, s_p_eq, s_p_2, s_q_1, s_q_ne, s_q_eq, u_ne, u_eq, v_ne, v_eq, w_ne, w_eq, jI_at_in, jL_at_in, false_or, or_false, true_or, or_true, true_and, and_true, false_and, and_false, not_true_eq_false, not_false_eq_true, ↓reduceIte, Option.bind_some, Option.map_some])⟩, fun i hi => by simp (disch := first | assumption | decide | omega) only [nI_lit, cT_lt, cF_lt, cT_le, cF_le, cT_eq, cF_eq, nF_le, mF_eq, mG_eq, mT_lt, eq_self, nI_clamp, nI_add, Nat.add_zero, nI_sub, s_i_ne, s_i_eq, s_i_2, s_l_1, s_l_ne, s_l_eq, s_p_ne, s_p_eq, s_p_2, s_q_1, s_q_ne, s_q_eq, u_ne, u_eq, v_ne, v_eq, w_ne, w_eq, jI_at_in, jL_at_in, false_or, or_false, true_or, or_true, true_and, and_true, false_and, and_false, not_true_eq_false, not_false_eq_true, ↓reduceIte, Option.bind_some, Option.map_some]; exact hel i hi⟩
theorem FIN_RU {E : jEn} {G : jGh} {F : Nat} {nS pN bN lN' : Nat → Nat} {ty : Nat → Nat → Nat} {W : Nat → Nat} {D : Nat → jDs} {tk LO : Nat → Nat} {sl sp : Nat → Nat → Nat} {H : jHp} {S : jSt} {an : aV} {bt fc st lm go nl : Nat} {τ ρ τ' ρ' : jx_S} (h : RU0 E G F nS pN bN lN' ty W D tk LO sl sp H S 0 an bt fc st lm go τ ρ) (hg : go ≤ 50) (hnl : nl < 2) (hel : ∀ i, i < go → τ'.1 73 i = ρ'.1 167 i) (c1 : τ'.1 8 14 = 1) (c2 : ∀ j, j ≠ 5 → j ≠ 7 → τ'.1 71 j = τ.1 71 j) (c2a : τ'.1 71 7 = nI nl) (c3 : τ'.1 9 = τ.1 9) (d1 : ∀ j, j ≠ 93 → j ≠ 96 → ρ'.1 106 j = ρ.1 106 j) (d1a : ρ'.1 106 96 = nI nl) (d1b : τ'.1 71 5 = ρ'.1 106 93) (d2 : ρ'.1 153 = ρ.1 153) : FIN H go τ' ρ' := by
  obtain ⟨_, ⟨⟨p1, p2, p3⟩, ⟨e1, e2, _⟩, _⟩, _, ⟨k1, k2, ⟨k3, k3a, _⟩, k4, ⟨dd, k5, k5a, k5b⟩, ⟨k6, k6a⟩, k7, k8, k9⟩, hH, _, h13⟩ := h
  refine ⟨⟨1, by omega, by omega, c1, Or.inr ⟨rfl, ?_⟩⟩, ⟨?_, ?_, ?_, ?_⟩, ?_, ⟨hH.2.1.1, ?_, ?_, ?_, fun i hi => ?_⟩, ⟨d1b, ?_, ?_, hg, ?_, ?_⟩, hel⟩
  · rw [d1 87 (by decide) (by decide)]; exact k2
  · rw [c2 0 (by decide) (by decide), d1 88 (by decide) (by decide), k3, k3a]
  · rw [c2 4 (by decide) (by decide), d1 83 (by decide) (by decide), k5a, k5b]
  · rw [c2 8 (by decide) (by decide), d1 91 (by decide) (by decide)]; exact k6
  · rw [c2 9 (by decide) (by decide), d1 92 (by decide) (by decide)]; exact k6a
  · rw [c3, d1 70 (by decide) (by decide), e1, e2]
  · rw [c3]; exact p1
  · rw [d1 67 (by decide) (by decide)]; exact p2
  · rw [c3]; exact h13
  · have := (p3 i hi).2.2.1.2
    rw [if_neg (by omega)] at this
    exact ⟨by rw [d2]; exact this, (hH.2.1.2 i hi).2.2.1⟩
  · rw [c2 6 (by decide) (by decide)]; exact k8.2.1
  · rw [d1 95 (by decide) (by decide)]; exact k9.2.1
  · rw [c2a, d1a]
  · rw [d1a]
    rcases (show nl = 0 ∨ nl = 1 by omega) with q | q
    · exact Or.inl (by rw [q]; rfl)
    · exact Or.inr (by rw [q]; rfl)
/-- what was worked is kept, first -/
theorem al_set {E : jEn} {G : jGh} {F : Nat} {nS pN bN lN' : Nat → Nat} {ty : Nat → Nat → Nat} {W : Nat → Nat} {D : Nat → jDs} {tk LO : Nat → Nat} {sl sp : Nat → Nat → Nat} {H : jHp} {S : jSt} {pd : Nat} {an : aV} {T st lm go : Nat} {τ ρ : jx_S} (h : AL E G F nS pN bN lN' ty W D tk LO sl sp H S pd an T st lm go τ ρ) : ∃ H1 τ1, p_cMac_goAlong τ = p_cMac_goAlong_38 (nI go) τ1 ∧ RU0 E G F nS pN bN lN' ty W D tk LO sl sp H1 S 0 an 0 0 st lm go τ1 ρ ∧ BZ H1 S 0 ∧ VT F pN bN ty W H1 T an ∧ jCn H1 = jCn H ∧ τ1.1 8 18 = -1 ∧ τ1.2 8 15 = cV an ∧ (τ1.1 8 17 = τ.1 8 17 ∧ τ1.1 8 16 = τ.1 8 16 ∧ τ1.1 73 = τ.1 73) ∧ (τ.1 8 14 = 0 ∧ τ.1 8 11 ≤ 0) := by
  obtain ⟨h, hd, hz, hp, ha, hv, h15, h18⟩ := h
  have h6 : jI_at 10 (τ.1 71) (6 : Int32) = nI go := (jI_at_in (j := 6) (by omega) (by omega)).trans h.2.2.2.1.2.2.2.2.2.2.2.1.2.1
  have h14 := h.2.2.2.1.1
  have h11 : τ.1 8 11 ≤ 0 := by rw [h.2.2.1.1.1, hd]; decide
  have hk8 := h.2.2.2.1.2.2.2.2.2.2.2.1
  have hk9 := h.2.2.2.1.2.2.2.2.2.2.2.2
  by_cases z : pd = 0
  · subst z
    rw [if_pos rfl] at h18
    refine ⟨H, τ, ?_, h, hz, hv, rfl, h18, h15, ⟨rfl, rfl, rfl⟩, h14, h11⟩
    unfold p_cMac_goAlong
    rw [h18, if_pos rfl, h6]
  · obtain ⟨i, rfl⟩ : ∃ i, pd = i + 1 := ⟨pd - 1, by omega⟩
    rw [if_neg z, Nat.add_sub_cancel] at h18
    obtain ⟨g1, g2, g3⟩ := hp z
    rw [Nat.add_sub_cancel] at g2 g3
    have hpn := h.2.2.2.2.1.2.1.1
    have hR := RU0_set (τ' := jx_i (jI_put 3000 (jL_put 3000 τ 95 (nI i) (cV an)) 93 (nI i) 2) 9 13 (τ.1 9 13 + 1)) h g1 g2 ha g3 (fun d hd' => by omega) (by
      rw [s_i_ne (by decide), s_p_eq, jI_up_in (by omega) (by omega)]; rfl) (fun r q1 q2 => by
      rw [s_i_ne q2, s_p_ne q1]; rfl) (fun j hj => by
      rw [s_i_eq, u_ne hj, s_p_ne (by decide)]; rfl) (by rw [s_i_eq, u_eq rfl]) (fun r hr => by
      show (jL_put 3000 τ 95 (nI i) (cV an)).2 r = _
      rw [s_q_ne hr]) (by
      show (jL_put 3000 τ 95 (nI i) (cV an)).2 95 = _
      rw [s_q_eq, jL_up_in (by omega) (by omega)])
    have hR2 : RU0 E G F nS pN bN lN' ty W D tk LO sl sp (hSet H i an) S 0 an 0 0 st lm go (jx_i (jx_i (jI_put 3000 (jL_put 3000 τ 95 (nI i) (cV an)) 93 (nI i) 2) 9 13 (τ.1 9 13 + 1)) 8 18 (-1)) ρ := RU0_out hR hd (fun r hr => s_i_ne (fun q => hr (by rw [q]; decide))) (fun j hj => by rw [s_i_eq, u_ne (by omega)]) (fun j _ => by rw [s_i_ne (by decide)]) (by rw [s_i_ne (by decide), s_i_ne (by decide), s_p_ne (by decide)]; exact hk8.2.1) (fun _ _ => rfl) (fun _ _ => rfl) (fun _ _ => rfl) hk9.2.1 (fun _ _ => rfl)
    refine ⟨hSet H i an, _, ?_, hR2, BZ_set hz, hv, rfl, by rw [s_i_eq, u_eq rfl], ?_, ⟨?_, ?_, ?_⟩, h14, h11⟩
    · unfold p_cMac_goAlong p_cHea_settle
      rw [h18, if_neg (fun q => nI_ne_m1 (by omega) q), h6, h15, Option.bind_some]
    · show (jL_put 3000 τ 95 (nI i) (cV an)).2 8 15 = cV an
      rw [s_q_ne (by decide)]; exact h15
    · rw [s_i_eq, u_ne (by decide), s_i_ne (by decide), s_p_ne (by decide)]; rfl
    · rw [s_i_eq, u_ne (by decide), s_i_ne (by decide), s_p_ne (by decide)]; rfl
    · rw [s_i_ne (by decide), s_i_ne (by decide), s_p_ne (by decide)]; rfl
def rAl : Int64 × jx_S → Option ((Int64 × jx_S) ⊕ jx_S) := fun s => p_r_goAlong_5_s s.1 s.2
theorem rAl_end {ρ : jx_S} {x : Int64} {en : Nat} (h : ρ.1 106 87 = nI en) (h1 : 1 ≤ en) (h5 : en ≤ 5) : rAl (x, ρ) = some (.inr (jx_i ρ 106 96 0)) := by
  show p_r_goAlong_5_s x ρ = _
  unfold p_r_goAlong_5_s p_r_goAlong_96
  rw [h, if_pos (nI_ne0 (by omega) (by omega)), if_pos (nI_ne0 (by omega) (by omega))]
  rfl
