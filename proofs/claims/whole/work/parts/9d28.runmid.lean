/-! RUNS, 28: in the midst of a tick: the top's stage and what it keeps are open. -/
def RStk2 (D : Nat → jDs) (H : jHp) (S : jSt) (τ ρ : jx_S) : Prop := (τ.1 8 11 = nI (jSd S) ∧ ρ.1 106 82 = nI (jSd S) ∧ jSd S ≤ 250) ∧ (∀ d, d < jSd S → (τ.1 75 d = nI (jSk S d + 1) ∧ ρ.1 161 d = nI (jSk S d)) ∧ (τ.1 77 d = nI (jFb H (jSf S d)) ∧ ρ.1 162 d = nI (jFb H (jSf S d))) ∧ ρ.1 164 d = (if jSl S d = 0 then -1 else nI (jSl S d - 1))) ∧ ∀ d, d + 1 < jSd S → (τ.1 79 d = nI (jSg S d) ∧ ρ.1 163 d = nI (rstg (dK (D (jSk S d))) (jSg S d))) ∧ (∀ j, j < keptS D S d → τ.2 81 (8 * d + j) = cV (jSw S d j) ∧ ρ.2 166 (sumN (keptS D S) d + j) = rV (jSw S d j)) ∧ (dK (D (jSk S d)) < 28 → jSg S d = 2 → τ.2 81 (8 * d) = cV (jSw S d 0) ∧ ρ.2 165 d = rV (jSw S d 0))
def RU2 (E : jEn) (G : jGh) (F : Nat) (nS pN bN lN' : Nat → Nat) (ty : Nat → Nat → Nat) (W : Nat → Nat) (D : Nat → jDs) (tk LO : Nat → Nat) (sl sp : Nat → Nat → Nat) (H : jHp) (S : jSt) (u : Nat) (an : aV) (bt fc st lm go : Nat) (τ ρ : jx_S) : Prop := RP E G F nS pN bN lN' ty W D tk LO sl sp τ ρ ∧ (RPu H 0 an τ ρ ∧ RCe H τ ρ ∧ RPa H τ ρ ∧ RGo H (fun x => x < jAn H) τ ρ ∧ RLo lN' H τ ρ) ∧ RStk2 D H S τ ρ ∧ RSc τ ρ st lm go ∧ HI E G F nS pN bN lN' ty W D tk LO sl sp H (fun x => x < jAn H) ∧ SI1 E G F nS pN bN lN' ty W D tk LO sl sp H S bt fc u ∧ τ.1 9 13 = nI (dnN H)
theorem RU2_of {E : jEn} {G : jGh} {F : Nat} {nS pN bN lN' : Nat → Nat} {ty : Nat → Nat → Nat} {W : Nat → Nat} {D : Nat → jDs} {tk LO : Nat → Nat} {sl sp : Nat → Nat → Nat} {H : jHp} {S : jSt} {an : aV} {bt fc st lm go u : Nat} {τ ρ : jx_S} (h : RU1 E G F nS pN bN lN' ty W D tk LO sl sp H S u an bt fc st lm go τ ρ) : RU2 E G F nS pN bN lN' ty W D tk LO sl sp H S u an bt fc st lm go τ ρ := by
  obtain ⟨h1, h2, ⟨s1, s2, s3⟩, h4, h5, h6, h7⟩ := h
  refine ⟨h1, h2, ⟨s1, fun d hd => ?_, fun d hd => ?_⟩, h4, h5, h6, h7⟩
  · obtain ⟨t1, t2, t3, t4, t5, t6⟩ := s3 d hd
    exact ⟨t1, t2, t4⟩
  · obtain ⟨t1, t2, t3, t4, t5, t6⟩ := s3 d (by omega)
    exact ⟨t3, t5, t6⟩
theorem sumN_mono {g : Nat → Nat} : ∀ a b, a ≤ b → sumN g a ≤ sumN g b := by
  intro a b h
  induction b with
  | zero =>
    rw [show a = 0 by omega]
    exact Nat.le_refl _
  | succ b ih =>
    by_cases z : a = b + 1
    · rw [z]; exact Nat.le_refl _
    · have h1 := ih (by omega)
      have e : sumN g (b + 1) = sumN g b + g b := rfl
      omega
/-- what does not matter in the midst of a tick -/
theorem RU2_keep {E : jEn} {G : jGh} {F : Nat} {nS pN bN lN' : Nat → Nat} {ty : Nat → Nat → Nat} {W : Nat → Nat} {D : Nat → jDs} {tk LO : Nat → Nat} {sl sp : Nat → Nat → Nat} {H : jHp} {S : jSt} {an : aV} {bt fc st lm go u : Nat} {τ ρ τ' ρ' : jx_S} (h : RU2 E G F nS pN bN lN' ty W D tk LO sl sp H S u an bt fc st lm go τ ρ)
  (c1 : ∀ r, r ≠ 79 → τ'.1 r = τ.1 r) (c2 : ∀ d, d + 1 < jSd S → τ'.1 79 d = τ.1 79 d) (c3 : ∀ r, r ≠ 81 → r ≠ 83 → τ'.2 r = τ.2 r) (c4 : ∀ j, j < 8 * (jSd S - 1) → τ'.2 81 j = τ.2 81 j)
  (d1 : ∀ r, r ≠ 106 → r ≠ 163 → ρ'.1 r = ρ.1 r) (d2 : ∀ j, j ≠ 85 → ρ'.1 106 j = ρ.1 106 j) (d3 : ∀ d, d + 1 < jSd S → ρ'.1 163 d = ρ.1 163 d) (d4 : ∀ r, r ≠ 166 → ρ'.2 r = ρ.2 r) (d5 : ∀ j, j < sumN (keptS D S) (jSd S - 1) → ρ'.2 166 j = ρ.2 166 j) :
  RU2 E G F nS pN bN lN' ty W D tk LO sl sp H S u an bt fc st lm go τ' ρ' := by
  obtain ⟨h1, ⟨⟨p1, p2, p3⟩, ⟨e1, e2, e3⟩, ⟨g1, g2, g3⟩, ⟨o1, o2, o3⟩, l1, l2, l3⟩, ⟨⟨s1, s2, s3⟩, s4, s5⟩, ⟨k1, k2, k3, k4, k5, k6, k7, k8, k9⟩, hH, hS, h13⟩ := h
  refine ⟨RP_keep h1 (fun r hr => c1 r (by revert hr; revert r; decide)) (c3 19 (by decide) (by decide)) (fun r hr => d1 r (by revert hr; revert r; decide) (by revert hr; revert r; decide)), ⟨⟨?_, ?_, fun i hi => ?_⟩, ⟨?_, ?_, fun x hx => ?_⟩, ⟨?_, ?_, fun p hp => ?_⟩, ⟨?_, ?_, fun x hx hg => ?_⟩, ?_, ?_, fun ψ hψ s hs hb => ?_⟩, ⟨⟨?_, ?_, s3⟩, fun d hd => ?_, fun d hd => ?_⟩, ⟨?_, ?_, ?_, ?_, ?_, ?_, ?_, ?_, ?_⟩, hH, hS, ?_⟩
  · rw [c1 9 (by decide)]; exact p1
  · rw [d2 67 (by decide)]; exact p2
  · rw [c1 89 (by decide), d1 151 (by decide) (by decide), c1 91 (by decide), d1 152 (by decide) (by decide), c1 93 (by decide), d1 153 (by decide) (by decide), c3 95 (by decide) (by decide), d4 154 (by decide)]; exact p3 i hi
  · rw [c1 9 (by decide)]; exact e1
  · rw [d2 70 (by decide)]; exact e2
  · rw [c3 85 (by decide) (by decide), c3 87 (by decide) (by decide), d4 155 (by decide), d4 156 (by decide)]; exact e3 x hx
  · rw [c1 9 (by decide)]; exact g1
  · rw [d2 74 (by decide)]; exact g2
  · rw [c3 101 (by decide) (by decide), d4 157 (by decide), c1 103 (by decide), d1 158 (by decide) (by decide), c1 105 (by decide), d1 159 (by decide) (by decide)]; exact g3 p hp
  · rw [c1 9 (by decide)]; exact o1
  · rw [d2 76 (by decide)]; exact o2
  · rw [c3 99 (by decide) (by decide), d4 160 (by decide)]; exact o3 x hx hg
  · rw [c1 9 (by decide)]; exact l1
  · rw [d2 62 (by decide)]; exact l2
  · rw [c3 97 (by decide) (by decide), d4 150 (by decide)]; exact l3 ψ hψ s hs hb
  · rw [c1 8 (by decide)]; exact s1
  · rw [d2 82 (by decide)]; exact s2
  · rw [c1 75 (by decide), d1 161 (by decide) (by decide), c1 77 (by decide), d1 162 (by decide) (by decide), d1 164 (by decide) (by decide)]; exact s4 d hd
  · obtain ⟨t1, t2, t3⟩ := s5 d hd
    have hk8 := kept8 h1 hH (hS.1 d hd)
    refine ⟨by rw [c2 d hd, d3 d hd]; exact t1, fun j hj => ?_, fun q1 q2 => ?_⟩
    · have hm := sumN_mono (g := keptS D S) (d + 1) (jSd S - 1) (by omega)
      have e : sumN (keptS D S) (d + 1) = sumN (keptS D S) d + keptS D S d := rfl
      rw [c4 _ (by omega), d5 _ (by omega)]
      exact t2 j hj
    · rw [c4 _ (by omega), d4 165 (by decide)]
      exact t3 q1 q2
  · rw [c1 8 (by decide)]; exact k1
  · rw [d2 87 (by decide)]; exact k2
  · rw [c1 71 (by decide), d2 88 (by decide)]; exact k3
  · rw [c1 8 (by decide), d2 89 (by decide)]; exact k4
  · rw [c1 71 (by decide), d2 83 (by decide)]; exact k5
  · rw [c1 71 (by decide), d2 91 (by decide), d2 92 (by decide)]; exact k6
  · rw [c1 8 (by decide), d2 86 (by decide)]; exact k7
  · rw [c1 71 (by decide)]; exact k8
  · rw [d2 93 (by decide), d2 95 (by decide), d2 96 (by decide)]; exact k9
  · rw [c1 9 (by decide)]; exact h13
/-- the strict ones are counted, in both -/
theorem RU2_str {E : jEn} {G : jGh} {F : Nat} {nS pN bN lN' : Nat → Nat} {ty : Nat → Nat → Nat} {W : Nat → Nat} {D : Nat → jDs} {tk LO : Nat → Nat} {sl sp : Nat → Nat → Nat} {H : jHp} {S : jSt} {an : aV} {bt fc st lm go u : Nat} {τ ρ : jx_S} (h : RU2 E G F nS pN bN lN' ty W D tk LO sl sp H S u an bt fc st lm go τ ρ) : RU2 E G F nS pN bN lN' ty W D tk LO sl sp H S u an bt fc st lm go (jI_put 10 τ 71 (9 : Int32) (jI_at 10 (τ.1 71) (9 : Int32) + 1)) (jx_i ρ 106 92 (ρ.1 106 92 + 1)) := by
  obtain ⟨h1, ⟨hp, hc, hg, ho, hl⟩, hs, ⟨k1, k2, k3, k4, k5, k6, k7, k8, k9⟩, hH, hS, h13⟩ := h
  have e71 : (jI_put 10 τ 71 (9 : Int32) (jI_at 10 (τ.1 71) (9 : Int32) + 1)).1 71 = upd (τ.1 71) 9 (τ.1 71 9 + 1) := by
    rw [s_p_eq, show (9 : Int32) = nI 9 from rfl, jI_up_in (by omega) (by omega), jI_at_in (by omega) (by omega)]
  refine ⟨RP_keep h1 (fun r hr => s_p_ne (fun z => by subst z; revert hr; decide)) rfl (fun r hr => s_i_ne (fun z => by subst z; revert hr; decide)), ⟨?_, ?_, ?_, ?_, ?_⟩, ?_, ⟨?_, ?_, ?_, ?_, ?_, ⟨?_, ?_⟩, ?_, ?_, ?_⟩, hH, hS, ?_⟩
  · unfold RPu at hp ⊢; simp (disch := first | assumption | decide | omega) only [nI_lit, cT_lt, cF_lt, cT_le, cF_le, cT_eq, cF_eq, nF_le, mF_eq, mG_eq, mT_lt, eq_self, nI_clamp, nI_add, Nat.add_zero, nI_sub, s_i_ne, s_i_eq, s_i_2, s_l_1, s_l_ne, s_l_eq, s_p_ne, s_p_eq, s_p_2, s_q_1, s_q_ne, s_q_eq, u_ne, u_eq, v_ne, v_eq, w_ne, w_eq, jI_at_in, jL_at_in, false_or, or_false, true_or, or_true, true_and, and_true, false_and, and_false, not_true_eq_false, not_false_eq_true, ↓reduceIte, Option.bind_some, Option.map_some]; exact hp
  · unfold RCe at hc ⊢; simp (disch := first | assumption | decide | omega) only [nI_lit, cT_lt, cF_lt, cT_le, cF_le, cT_eq, cF_eq, nF_le, mF_eq, mG_eq, mT_lt, eq_self, nI_clamp, nI_add, Nat.add_zero, nI_sub, s_i_ne, s_i_eq, s_i_2, s_l_1, s_l_ne, s_l_eq, s_p_ne, s_p_eq, s_p_2, s_q_1, s_q_ne, s_q_eq, u_ne, u_eq, v_ne, v_eq, w_ne, w_eq, jI_at_in, jL_at_in, false_or, or_false, true_or, or_true, true_and, and_true, false_and, and_false, not_true_eq_false, not_false_eq_true, ↓reduceIte, Option.bind_some, Option.map_some]; exact hc
  · unfold RPa at hg ⊢; simp (disch := first | assumption | decide | omega) only [nI_lit, cT_lt, cF_lt, cT_le, cF_le, cT_eq, cF_eq, nF_le, mF_eq, mG_eq, mT_lt, eq_self, nI_clamp, nI_add, Nat.add_zero, nI_sub, s_i_ne, s_i_eq, s_i_2, s_l_1, s_l_ne, s_l_eq, s_p_ne, s_p_eq, s_p_2, s_q_1, s_q_ne, s_q_eq, u_ne, u_eq, v_ne, v_eq, w_ne, w_eq, jI_at_in, jL_at_in, false_or, or_false, true_or, or_true, true_and, and_true, false_and, and_false, not_true_eq_false, not_false_eq_true, ↓reduceIte, Option.bind_some, Option.map_some]; exact hg
  · unfold RGo at ho ⊢; simp (disch := first | assumption | decide | omega) only [nI_lit, cT_lt, cF_lt, cT_le, cF_le, cT_eq, cF_eq, nF_le, mF_eq, mG_eq, mT_lt, eq_self, nI_clamp, nI_add, Nat.add_zero, nI_sub, s_i_ne, s_i_eq, s_i_2, s_l_1, s_l_ne, s_l_eq, s_p_ne, s_p_eq, s_p_2, s_q_1, s_q_ne, s_q_eq, u_ne, u_eq, v_ne, v_eq, w_ne, w_eq, jI_at_in, jL_at_in, false_or, or_false, true_or, or_true, true_and, and_true, false_and, and_false, not_true_eq_false, not_false_eq_true, ↓reduceIte, Option.bind_some, Option.map_some]; exact ho
  · unfold RLo at hl ⊢; simp (disch := first | assumption | decide | omega) only [nI_lit, cT_lt, cF_lt, cT_le, cF_le, cT_eq, cF_eq, nF_le, mF_eq, mG_eq, mT_lt, eq_self, nI_clamp, nI_add, Nat.add_zero, nI_sub, s_i_ne, s_i_eq, s_i_2, s_l_1, s_l_ne, s_l_eq, s_p_ne, s_p_eq, s_p_2, s_q_1, s_q_ne, s_q_eq, u_ne, u_eq, v_ne, v_eq, w_ne, w_eq, jI_at_in, jL_at_in, false_or, or_false, true_or, or_true, true_and, and_true, false_and, and_false, not_true_eq_false, not_false_eq_true, ↓reduceIte, Option.bind_some, Option.map_some]; exact hl
  · unfold RStk2 at hs ⊢; simp (disch := first | assumption | decide | omega) only [nI_lit, cT_lt, cF_lt, cT_le, cF_le, cT_eq, cF_eq, nF_le, mF_eq, mG_eq, mT_lt, eq_self, nI_clamp, nI_add, Nat.add_zero, nI_sub, s_i_ne, s_i_eq, s_i_2, s_l_1, s_l_ne, s_l_eq, s_p_ne, s_p_eq, s_p_2, s_q_1, s_q_ne, s_q_eq, u_ne, u_eq, v_ne, v_eq, w_ne, w_eq, jI_at_in, jL_at_in, false_or, or_false, true_or, or_true, true_and, and_true, false_and, and_false, not_true_eq_false, not_false_eq_true, ↓reduceIte, Option.bind_some, Option.map_some]; exact hs
  · simp (disch := first | assumption | decide | omega) only [nI_lit, cT_lt, cF_lt, cT_le, cF_le, cT_eq, cF_eq, nF_le, mF_eq, mG_eq, mT_lt, eq_self, nI_clamp, nI_add, Nat.add_zero, nI_sub, s_i_ne, s_i_eq, s_i_2, s_l_1, s_l_ne, s_l_eq, s_p_ne, s_p_eq, s_p_2, s_q_1, s_q_ne, s_q_eq, u_ne, u_eq, v_ne, v_eq, w_ne, w_eq, jI_at_in, jL_at_in, false_or, or_false, true_or, or_true, true_and, and_true, false_and, and_false, not_true_eq_false, not_false_eq_true, ↓reduceIte, Option.bind_some, Option.map_some]; exact k1
  · simp (disch := first | assumption | decide | omega) only [nI_lit, cT_lt, cF_lt, cT_le, cF_le, cT_eq, cF_eq, nF_le, mF_eq, mG_eq, mT_lt, eq_self, nI_clamp, nI_add, Nat.add_zero, nI_sub, s_i_ne, s_i_eq, s_i_2, s_l_1, s_l_ne, s_l_eq, s_p_ne, s_p_eq, s_p_2, s_q_1, s_q_ne, s_q_eq, u_ne, u_eq, v_ne, v_eq, w_ne, w_eq, jI_at_in, jL_at_in, false_or, or_false, true_or, or_true, true_and, and_true, false_and, and_false, not_true_eq_false, not_false_eq_true, ↓reduceIte, Option.bind_some, Option.map_some]; exact k2
  · rw [e71, u_ne (by omega)]; simp (disch := first | assumption | decide | omega) only [nI_lit, cT_lt, cF_lt, cT_le, cF_le, cT_eq, cF_eq, nF_le, mF_eq, mG_eq, mT_lt, eq_self, nI_clamp, nI_add, Nat.add_zero, nI_sub, s_i_ne, s_i_eq, s_i_2, s_l_1, s_l_ne, s_l_eq, s_p_ne, s_p_eq, s_p_2, s_q_1, s_q_ne, s_q_eq, u_ne, u_eq, v_ne, v_eq, w_ne, w_eq, jI_at_in, jL_at_in, false_or, or_false, true_or, or_true, true_and, and_true, false_and, and_false, not_true_eq_false, not_false_eq_true, ↓reduceIte, Option.bind_some, Option.map_some]; exact k3
  · simp (disch := first | assumption | decide | omega) only [nI_lit, cT_lt, cF_lt, cT_le, cF_le, cT_eq, cF_eq, nF_le, mF_eq, mG_eq, mT_lt, eq_self, nI_clamp, nI_add, Nat.add_zero, nI_sub, s_i_ne, s_i_eq, s_i_2, s_l_1, s_l_ne, s_l_eq, s_p_ne, s_p_eq, s_p_2, s_q_1, s_q_ne, s_q_eq, u_ne, u_eq, v_ne, v_eq, w_ne, w_eq, jI_at_in, jL_at_in, false_or, or_false, true_or, or_true, true_and, and_true, false_and, and_false, not_true_eq_false, not_false_eq_true, ↓reduceIte, Option.bind_some, Option.map_some]; exact k4
  · rw [e71, u_ne (by omega)]; simp (disch := first | assumption | decide | omega) only [nI_lit, cT_lt, cF_lt, cT_le, cF_le, cT_eq, cF_eq, nF_le, mF_eq, mG_eq, mT_lt, eq_self, nI_clamp, nI_add, Nat.add_zero, nI_sub, s_i_ne, s_i_eq, s_i_2, s_l_1, s_l_ne, s_l_eq, s_p_ne, s_p_eq, s_p_2, s_q_1, s_q_ne, s_q_eq, u_ne, u_eq, v_ne, v_eq, w_ne, w_eq, jI_at_in, jL_at_in, false_or, or_false, true_or, or_true, true_and, and_true, false_and, and_false, not_true_eq_false, not_false_eq_true, ↓reduceIte, Option.bind_some, Option.map_some]; exact k5
  · rw [e71, u_ne (by omega)]; simp (disch := first | assumption | decide | omega) only [nI_lit, cT_lt, cF_lt, cT_le, cF_le, cT_eq, cF_eq, nF_le, mF_eq, mG_eq, mT_lt, eq_self, nI_clamp, nI_add, Nat.add_zero, nI_sub, s_i_ne, s_i_eq, s_i_2, s_l_1, s_l_ne, s_l_eq, s_p_ne, s_p_eq, s_p_2, s_q_1, s_q_ne, s_q_eq, u_ne, u_eq, v_ne, v_eq, w_ne, w_eq, jI_at_in, jL_at_in, false_or, or_false, true_or, or_true, true_and, and_true, false_and, and_false, not_true_eq_false, not_false_eq_true, ↓reduceIte, Option.bind_some, Option.map_some]; exact k6.1
  · rw [e71, u_eq rfl, s_i_eq, u_eq rfl, k6.2]
  · simp (disch := first | assumption | decide | omega) only [nI_lit, cT_lt, cF_lt, cT_le, cF_le, cT_eq, cF_eq, nF_le, mF_eq, mG_eq, mT_lt, eq_self, nI_clamp, nI_add, Nat.add_zero, nI_sub, s_i_ne, s_i_eq, s_i_2, s_l_1, s_l_ne, s_l_eq, s_p_ne, s_p_eq, s_p_2, s_q_1, s_q_ne, s_q_eq, u_ne, u_eq, v_ne, v_eq, w_ne, w_eq, jI_at_in, jL_at_in, false_or, or_false, true_or, or_true, true_and, and_true, false_and, and_false, not_true_eq_false, not_false_eq_true, ↓reduceIte, Option.bind_some, Option.map_some]; exact k7
  · rw [e71, u_ne (by omega), u_ne (by omega), u_ne (by omega)]; exact k8
  · simp (disch := first | assumption | decide | omega) only [nI_lit, cT_lt, cF_lt, cT_le, cF_le, cT_eq, cF_eq, nF_le, mF_eq, mG_eq, mT_lt, eq_self, nI_clamp, nI_add, Nat.add_zero, nI_sub, s_i_ne, s_i_eq, s_i_2, s_l_1, s_l_ne, s_l_eq, s_p_ne, s_p_eq, s_p_2, s_q_1, s_q_ne, s_q_eq, u_ne, u_eq, v_ne, v_eq, w_ne, w_eq, jI_at_in, jL_at_in, false_or, or_false, true_or, or_true, true_and, and_true, false_and, and_false, not_true_eq_false, not_false_eq_true, ↓reduceIte, Option.bind_some, Option.map_some]; exact k9
  · simp (disch := first | assumption | decide | omega) only [nI_lit, cT_lt, cF_lt, cT_le, cF_le, cT_eq, cF_eq, nF_le, mF_eq, mG_eq, mT_lt, eq_self, nI_clamp, nI_add, Nat.add_zero, nI_sub, s_i_ne, s_i_eq, s_i_2, s_l_1, s_l_ne, s_l_eq, s_p_ne, s_p_eq, s_p_2, s_q_1, s_q_ne, s_q_eq, u_ne, u_eq, v_ne, v_eq, w_ne, w_eq, jI_at_in, jL_at_in, false_or, or_false, true_or, or_true, true_and, and_true, false_and, and_false, not_true_eq_false, not_false_eq_true, ↓reduceIte, Option.bind_some, Option.map_some]; exact h13
