/-! RUNS, 17: a working ends: the run goes on. -/
def sPop (S : jSt) : jSt := (jSd S - 1, S.2)
theorem same_keep {rs : List Nat} {σ σ' : jx_S} (h : ∀ r, r ∉ [8, 106, 153] → σ'.1 r = σ.1 r) (hr : ∀ r, r ∈ rs → r ∉ [8, 106, 153]) : same rs σ σ' := fun r q => h r (hr r q)
theorem cFin_1 {τ : jx_S} {dp : Nat} {v : aV} : (∀ r, r ≠ 8 → (cFin τ dp v).1 r = τ.1 r) ∧ (∀ j, j ≠ 11 → (cFin τ dp v).1 8 j = τ.1 8 j) ∧ (cFin τ dp v).1 8 11 = nI (dp - 1) ∧ (∀ r, r ≠ 8 → (cFin τ dp v).2 r = τ.2 r) ∧ (cFin τ dp v).2 8 15 = cV v := by
  unfold cFin
  refine ⟨fun r hr => ?_, fun j hj => ?_, ?_, fun r hr => ?_, ?_⟩
  · rw [s_i_ne hr, s_l_1]
  · rw [s_i_eq, u_ne hj, s_l_1]
  · simp (disch := first | assumption | decide | omega) only [nI_lit, cT_lt, cF_lt, cT_le, cF_le, cT_eq, cF_eq, nF_le, mF_eq, mG_eq, mT_lt, eq_self, nI_clamp, nI_add, Nat.add_zero, nI_sub, s_i_ne, s_i_eq, s_i_2, s_l_1, s_l_ne, s_l_eq, s_p_ne, s_p_eq, s_p_2, s_q_1, s_q_ne, s_q_eq, u_ne, u_eq, v_ne, v_eq, w_ne, w_eq, jI_at_in, jL_at_in, false_or, or_false, true_or, or_true, true_and, and_true, false_and, and_false, not_true_eq_false, not_false_eq_true, ↓reduceIte, Option.bind_some, Option.map_some]
  · rw [s_i_2, s_l_ne hr]
  · simp (disch := first | assumption | decide | omega) only [nI_lit, cT_lt, cF_lt, cT_le, cF_le, cT_eq, cF_eq, nF_le, mF_eq, mG_eq, mT_lt, eq_self, nI_clamp, nI_add, Nat.add_zero, nI_sub, s_i_ne, s_i_eq, s_i_2, s_l_1, s_l_ne, s_l_eq, s_p_ne, s_p_eq, s_p_2, s_q_1, s_q_ne, s_q_eq, u_ne, u_eq, v_ne, v_eq, w_ne, w_eq, jI_at_in, jL_at_in, false_or, or_false, true_or, or_true, true_and, and_true, false_and, and_false, not_true_eq_false, not_false_eq_true, ↓reduceIte, Option.bind_some, Option.map_some]
theorem rFin_1 {ρ : jx_S} {dp l : Nat} {v : aV} : (∀ r, r ≠ 106 → r ≠ 153 → (rFin ρ dp l v).1 r = ρ.1 r) ∧ (∀ j, j ≠ 82 → (rFin ρ dp l v).1 106 j = ρ.1 106 j) ∧ (rFin ρ dp l v).1 106 82 = nI (dp - 1) ∧ (∀ i, (rFin ρ dp l v).1 153 i = if l = i + 1 then 2 else ρ.1 153 i) ∧ (∀ r, r ≠ 106 → r ≠ 154 → (rFin ρ dp l v).2 r = ρ.2 r) ∧ (rFin ρ dp l v).2 106 90 = rV v ∧ (∀ i, (rFin ρ dp l v).2 154 i = if l = i + 1 then rV v else ρ.2 154 i) := by
  unfold rFin
  by_cases z : l = 0
  · rw [if_pos z]
    refine ⟨fun r h1 h2 => ?_, fun j hj => ?_, ?_, fun i => ?_, fun r h1 h2 => ?_, ?_, fun i => ?_⟩
    · rw [s_l_1, s_i_ne h1]
    · rw [s_l_1, s_i_eq, u_ne hj]
    · simp (disch := first | assumption | decide | omega) only [nI_lit, cT_lt, cF_lt, cT_le, cF_le, cT_eq, cF_eq, nF_le, mF_eq, mG_eq, mT_lt, eq_self, nI_clamp, nI_add, Nat.add_zero, nI_sub, s_i_ne, s_i_eq, s_i_2, s_l_1, s_l_ne, s_l_eq, s_p_ne, s_p_eq, s_p_2, s_q_1, s_q_ne, s_q_eq, u_ne, u_eq, v_ne, v_eq, w_ne, w_eq, jI_at_in, jL_at_in, false_or, or_false, true_or, or_true, true_and, and_true, false_and, and_false, not_true_eq_false, not_false_eq_true, ↓reduceIte, Option.bind_some, Option.map_some]
    · rw [if_neg (by omega)]; simp (disch := first | assumption | decide | omega) only [nI_lit, cT_lt, cF_lt, cT_le, cF_le, cT_eq, cF_eq, nF_le, mF_eq, mG_eq, mT_lt, eq_self, nI_clamp, nI_add, Nat.add_zero, nI_sub, s_i_ne, s_i_eq, s_i_2, s_l_1, s_l_ne, s_l_eq, s_p_ne, s_p_eq, s_p_2, s_q_1, s_q_ne, s_q_eq, u_ne, u_eq, v_ne, v_eq, w_ne, w_eq, jI_at_in, jL_at_in, false_or, or_false, true_or, or_true, true_and, and_true, false_and, and_false, not_true_eq_false, not_false_eq_true, ↓reduceIte, Option.bind_some, Option.map_some]
    · rw [s_l_ne h1, s_i_2]
    · simp (disch := first | assumption | decide | omega) only [nI_lit, cT_lt, cF_lt, cT_le, cF_le, cT_eq, cF_eq, nF_le, mF_eq, mG_eq, mT_lt, eq_self, nI_clamp, nI_add, Nat.add_zero, nI_sub, s_i_ne, s_i_eq, s_i_2, s_l_1, s_l_ne, s_l_eq, s_p_ne, s_p_eq, s_p_2, s_q_1, s_q_ne, s_q_eq, u_ne, u_eq, v_ne, v_eq, w_ne, w_eq, jI_at_in, jL_at_in, false_or, or_false, true_or, or_true, true_and, and_true, false_and, and_false, not_true_eq_false, not_false_eq_true, ↓reduceIte, Option.bind_some, Option.map_some]
    · rw [if_neg (by omega)]; simp (disch := first | assumption | decide | omega) only [nI_lit, cT_lt, cF_lt, cT_le, cF_le, cT_eq, cF_eq, nF_le, mF_eq, mG_eq, mT_lt, eq_self, nI_clamp, nI_add, Nat.add_zero, nI_sub, s_i_ne, s_i_eq, s_i_2, s_l_1, s_l_ne, s_l_eq, s_p_ne, s_p_eq, s_p_2, s_q_1, s_q_ne, s_q_eq, u_ne, u_eq, v_ne, v_eq, w_ne, w_eq, jI_at_in, jL_at_in, false_or, or_false, true_or, or_true, true_and, and_true, false_and, and_false, not_true_eq_false, not_false_eq_true, ↓reduceIte, Option.bind_some, Option.map_some]
  · rw [if_neg z]
    refine ⟨fun r h1 h2 => ?_, fun j hj => ?_, ?_, fun i => ?_, fun r h1 h2 => ?_, ?_, fun i => ?_⟩
    · rw [s_l_1, s_i_ne h2, s_l_1, s_i_ne h1]
    · rw [s_l_1, s_i_ne (by decide), s_l_1, s_i_eq, u_ne hj]
    · simp (disch := first | assumption | decide | omega) only [nI_lit, cT_lt, cF_lt, cT_le, cF_le, cT_eq, cF_eq, nF_le, mF_eq, mG_eq, mT_lt, eq_self, nI_clamp, nI_add, Nat.add_zero, nI_sub, s_i_ne, s_i_eq, s_i_2, s_l_1, s_l_ne, s_l_eq, s_p_ne, s_p_eq, s_p_2, s_q_1, s_q_ne, s_q_eq, u_ne, u_eq, v_ne, v_eq, w_ne, w_eq, jI_at_in, jL_at_in, false_or, or_false, true_or, or_true, true_and, and_true, false_and, and_false, not_true_eq_false, not_false_eq_true, ↓reduceIte, Option.bind_some, Option.map_some]
    · rw [s_l_1, s_i_eq]
      by_cases y : l = i + 1
      · rw [if_pos y, u_eq (by omega)]
      · rw [if_neg y, u_ne (by omega), s_l_1]; simp (disch := first | assumption | decide | omega) only [nI_lit, cT_lt, cF_lt, cT_le, cF_le, cT_eq, cF_eq, nF_le, mF_eq, mG_eq, mT_lt, eq_self, nI_clamp, nI_add, Nat.add_zero, nI_sub, s_i_ne, s_i_eq, s_i_2, s_l_1, s_l_ne, s_l_eq, s_p_ne, s_p_eq, s_p_2, s_q_1, s_q_ne, s_q_eq, u_ne, u_eq, v_ne, v_eq, w_ne, w_eq, jI_at_in, jL_at_in, false_or, or_false, true_or, or_true, true_and, and_true, false_and, and_false, not_true_eq_false, not_false_eq_true, ↓reduceIte, Option.bind_some, Option.map_some]
    · rw [s_l_ne h2, s_i_2, s_l_ne h1, s_i_2]
    · simp (disch := first | assumption | decide | omega) only [nI_lit, cT_lt, cF_lt, cT_le, cF_le, cT_eq, cF_eq, nF_le, mF_eq, mG_eq, mT_lt, eq_self, nI_clamp, nI_add, Nat.add_zero, nI_sub, s_i_ne, s_i_eq, s_i_2, s_l_1, s_l_ne, s_l_eq, s_p_ne, s_p_eq, s_p_2, s_q_1, s_q_ne, s_q_eq, u_ne, u_eq, v_ne, v_eq, w_ne, w_eq, jI_at_in, jL_at_in, false_or, or_false, true_or, or_true, true_and, and_true, false_and, and_false, not_true_eq_false, not_false_eq_true, ↓reduceIte, Option.bind_some, Option.map_some]
    · rw [s_l_eq]
      by_cases y : l = i + 1
      · rw [if_pos y, v_eq (by omega)]
      · rw [if_neg y, v_ne (by omega)]; simp (disch := first | assumption | decide | omega) only [nI_lit, cT_lt, cF_lt, cT_le, cF_le, cT_eq, cF_eq, nF_le, mF_eq, mG_eq, mT_lt, eq_self, nI_clamp, nI_add, Nat.add_zero, nI_sub, s_i_ne, s_i_eq, s_i_2, s_l_1, s_l_ne, s_l_eq, s_p_ne, s_p_eq, s_p_2, s_q_1, s_q_ne, s_q_eq, u_ne, u_eq, v_ne, v_eq, w_ne, w_eq, jI_at_in, jL_at_in, false_or, or_false, true_or, or_true, true_and, and_true, false_and, and_false, not_true_eq_false, not_false_eq_true, ↓reduceIte, Option.bind_some, Option.map_some]
theorem run_fin {E : jEn} {G : jGh} {F : Nat} {nS pN bN lN' : Nat → Nat} {ty : Nat → Nat → Nat} {W : Nat → Nat} {D : Nat → jDs} {tk LO : Nat → Nat} {sl sp : Nat → Nat → Nat} {H : jHp} {S : jSt} {an v : aV} {bt fc st lm go u : Nat} {τ ρ : jx_S} (h : RU1 E G F nS pN bN lN' ty W D tk LO sl sp H S u an bt fc st lm go τ ρ) (hd : 0 < jSd S) (hz0 : BZ H S 0) (hk : keptS D S (jSd S - 1) = 0) (hv3 : v.1 < 3) (hv : VT F pN bN ty W H (W (jSk S (jSd S - 1))) v) : ∃ ρ', p_cMac_finish (cV v) τ = some (cFin τ (jSd S) v) ∧ p_r_finish (rV v) ρ = some ρ' ∧ RUN E G F nS pN bN lN' ty W D tk LO sl sp H (sPop S) (jSl S (jSd S - 1)) v bt fc st lm go (cFin τ (jSd S) v) ρ' := by
  obtain ⟨h1, ⟨⟨p1, p2, p3⟩, ⟨c1, c2, c3⟩, ⟨g1, g2, g3⟩, ⟨o1, o2, o3⟩, l1, l2, l3⟩, ⟨⟨s1, s2, s3⟩, s4, s5⟩, ⟨k1, k2, k3, k4, k5, k6, k7, k8, k9⟩, hH, ⟨i1, it, i2, i3, i4⟩, h13⟩ := h
  have htop := it hd
  have hl := htop.2.2.2.2.2.2.2.1
  have hpn := hH.2.1.1
  have h164 := (s5 (jSd S - 1) (by omega)).2.2.2.1
  refine ⟨rFin ρ (jSd S) (jSl S (jSd S - 1)) v, c_finish s1 hd, r_finish s2 hd s3 h164 (by
    by_cases z : jSl S (jSd S - 1) = 0
    · omega
    · have := (hl z).1; omega), ?_⟩
  obtain ⟨a1, a2, a3, a4, a5⟩ := @cFin_1 τ (jSd S) v
  obtain ⟨b1, b2, b3, b4, b5, b6, b7⟩ := @rFin_1 ρ (jSd S) (jSl S (jSd S - 1)) v
  generalize cFin τ (jSd S) v = τ' at *
  generalize rFin ρ (jSd S) (jSl S (jSd S - 1)) v = ρ' at *
  have hsum : sumN (keptS D S) (jSd S) = sumN (keptS D S) (jSd S - 1) := by
    have e : sumN (keptS D S) (jSd S - 1 + 1) = sumN (keptS D S) (jSd S - 1) + keptS D S (jSd S - 1) := rfl
    rw [show jSd S - 1 + 1 = jSd S by omega, hk] at e
    exact e
  refine ⟨⟨RP_keep h1 (fun r hr => a1 r (by revert hr; revert r; decide)) (a4 19 (by decide)) (fun r hr => b1 r (by revert hr; revert r; decide) (by revert hr; revert r; decide)), ⟨⟨?_, ?_, fun i hi => ?_⟩, ⟨?_, ?_, fun c hc => ?_⟩, ⟨?_, ?_, fun p hp => ?_⟩, ⟨?_, ?_, fun x hx hg => ?_⟩, ?_, ?_, fun φ hφ s hs hb => ?_⟩, ⟨⟨a3, b3, ?_⟩, ?_, fun d hd' => ?_⟩, ⟨?_, ?_, ?_, ?_, ?_, ?_, ?_, ?_, ?_⟩, hH, ⟨fun d hd' => ?_, fun d hd' => ?_, fun hd' => ?_, fun d e hd' he' => ?_⟩, ?_⟩, ⟨fun hd' => ?_, fun hd' => Or.inr ?_, fun hz => ?_, fun d hd' hz hq => ?_, fun i hi hs => ?_⟩, fun _ => ⟨a5, b6⟩⟩
  · rw [a1 9 (by decide)]; exact p1
  · rw [b2 67 (by decide)]; exact p2
  · obtain ⟨⟨u1, u2⟩, ⟨u3, u4⟩, ⟨u5, u6⟩, u7, _⟩ := p3 i hi
    rw [if_neg (show ¬ 0 = i + 1 by omega)] at u6
    have hne : jPs H i = 2 → jSl S (jSd S - 1) ≠ i + 1 := fun q z => by
      have := (hl (by omega)).2.1
      rw [z, Nat.add_sub_cancel] at this
      omega
    refine ⟨⟨by rw [a1 89 (by decide)]; exact u1, by rw [b1 151 (by decide) (by decide)]; exact u2⟩, ⟨by rw [a1 91 (by decide)]; exact u3, by rw [b1 152 (by decide) (by decide)]; exact u4⟩, ⟨by rw [a1 93 (by decide)]; exact u5, ?_⟩, fun q => ⟨by rw [a4 95 (by decide)]; exact (u7 q).1, ?_⟩, fun q => by rw [b7 i, if_pos q]⟩
    · rw [b4 i]
      by_cases z : jSl S (jSd S - 1) = i + 1
      · rw [if_pos z, if_pos z]; rfl
      · rw [if_neg z, if_neg z]; exact u6
    · rw [b7 i, if_neg (hne q)]; exact (u7 q).2
  · rw [a1 9 (by decide)]; exact c1
  · rw [b2 70 (by decide)]; exact c2
  · rw [a4 85 (by decide), a4 87 (by decide), b5 155 (by decide) (by decide), b5 156 (by decide) (by decide)]; exact c3 c hc
  · rw [a1 9 (by decide)]; exact g1
  · rw [b2 74 (by decide)]; exact g2
  · rw [a4 101 (by decide), b5 157 (by decide) (by decide), a1 103 (by decide), b1 158 (by decide) (by decide), a1 105 (by decide), b1 159 (by decide) (by decide)]; exact g3 p hp
  · rw [a1 9 (by decide)]; exact o1
  · rw [b2 76 (by decide)]; exact o2
  · rw [a4 99 (by decide), b5 160 (by decide) (by decide)]; exact o3 x hx hg
  · rw [a1 9 (by decide)]; exact l1
  · rw [b2 62 (by decide)]; exact l2
  · rw [a4 97 (by decide), b5 150 (by decide) (by decide)]; exact l3 φ hφ s hs hb
  · show jSd S - 1 ≤ 250
    omega
  · rw [b2 85 (by decide), s4, hsum]; rfl
  · have hd2 : d < jSd S - 1 := hd'
    rw [a1 75 (by decide), b1 161 (by decide) (by decide), a1 77 (by decide), b1 162 (by decide) (by decide), a1 79 (by decide), b1 163 (by decide) (by decide), b1 164 (by decide) (by decide), a4 81 (by decide), b5 166 (by decide) (by decide), b5 165 (by decide) (by decide)]
    exact s5 d (by omega)
  · rw [a2 14 (by decide)]; exact k1
  · rw [b2 87 (by decide)]; exact k2
  · rw [a1 71 (by decide), b2 88 (by decide)]; exact k3
  · rw [a2 12 (by decide), b2 89 (by decide)]; exact k4
  · rw [a1 71 (by decide), b2 83 (by decide)]; exact k5
  · rw [a1 71 (by decide), b2 91 (by decide), b2 92 (by decide)]; exact k6
  · rw [a2 13 (by decide), b2 86 (by decide)]; exact k7
  · rw [a1 71 (by decide)]; exact k8
  · rw [b2 93 (by decide), b2 95 (by decide), b2 96 (by decide)]; exact k9
  · have hd2 : d < jSd S - 1 := hd'
    exact i1 d (by omega)
  · have hd2 : d + 1 < jSd S - 1 := hd'
    exact i2 d (by omega)
  · have hd2 : 0 < jSd S - 1 := hd'
    exact i3 (by omega)
  · have hd2 : d < jSd S - 1 := hd'
    have he2 : e < jSd S - 1 := he'
    exact i4 d e (by omega) (by omega)
  · rw [a1 9 (by decide)]; exact h13
  · have hd2 : jSd S - 1 = 0 := hd'
    have := i3 hd
    rw [hd2] at hv
    rw [hd2]
    exact ⟨hv3, by rw [← this.1]; exact hv, this.2⟩
  · have hd2 : 0 < jSd S - 1 := hd'
    have q := i2 (jSd S - 1 - 1) (by omega)
    rw [show jSd S - 1 - 1 + 1 = jSd S - 1 by omega] at q
    exact ⟨q.1, hv3, by
      show VT F pN bN ty W H (xtyp W D (jSk S (jSd S - 1 - 1)) (jSg S (jSd S - 1 - 1))) v
      rw [← q.2]; exact hv⟩
  · obtain ⟨q1, q2, q3⟩ := hl hz
    exact ⟨q1, q2, by rw [q3]; exact hv⟩
  · have hd2 : d < jSd S - 1 := hd'
    have := i4 d (jSd S - 1) (by omega) (by omega) hz hq
    omega
  · rcases hz0 i hi hs with q | ⟨d, q1, q2⟩
    · omega
    · by_cases z : d = jSd S - 1
      · subst z; exact Or.inl q2
      · exact Or.inr ⟨d, show d < jSd S - 1 by omega, q2⟩
