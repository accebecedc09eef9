/-! RUNS, 21: a working's stage; a part begins. -/
def sSet (S : jSt) (sg : Nat) : jSt := (jSd S, jSk S, jSf S, fun d => if d = jSd S - 1 then sg else jSg S d, jSl S, jSw S)
def cStg (τ : jx_S) (dp sg : Nat) : jx_S := jI_put 250 τ 79 (nI (dp - 1)) (nI sg)
def rStg (ρ : jx_S) (dp K sg : Nat) : jx_S := jx_i ρ 163 (dp - 1) (nI (rstg K sg))
theorem kept_n {K sg : Nat} (h : K ≠ 29) : kept K sg = 0 := by unfold kept; rw [if_neg (fun q => h q.1)]
theorem mea_set {S : jSt} {st lm sg : Nat} (h : 0 < jSd S) : mea (sSet S sg) st lm + remS (jSg S (jSd S - 1)) = mea S st lm + remS sg := by
  unfold mea
  have e : sumN (fun d => remS (jSg S d)) (jSd S - 1 + 1) = sumN (fun d => remS (jSg S d)) (jSd S - 1) + remS (jSg S (jSd S - 1)) := rfl
  have e2 : sumN (fun d => remS (jSg (sSet S sg) d)) (jSd S - 1 + 1) = sumN (fun d => remS (jSg (sSet S sg) d)) (jSd S - 1) + remS (jSg (sSet S sg) (jSd S - 1)) := rfl
  have e3 : sumN (fun d => remS (jSg (sSet S sg) d)) (jSd S - 1) = sumN (fun d => remS (jSg S d)) (jSd S - 1) := sumN_congr _ (fun i hi => by
    show remS (if i = jSd S - 1 then sg else jSg S i) = _
    rw [if_neg (by omega)])
  have e4 : jSg (sSet S sg) (jSd S - 1) = sg := if_pos rfl
  rw [show jSd S - 1 + 1 = jSd S by omega] at e e2
  have e5 : jSd (sSet S sg) = jSd S := rfl
  rw [e5, e2, e3, e4, e]
  omega
theorem mea_push {S : jSt} {st lm c φ l : Nat} (h : st < lm) : mea (sPush S c φ l) (st + 1) lm = mea S st lm := by
  unfold mea
  have e2 : sumN (fun d => remS (jSg (sPush S c φ l) d)) (jSd S + 1) = sumN (fun d => remS (jSg (sPush S c φ l) d)) (jSd S) + remS (jSg (sPush S c φ l) (jSd S)) := rfl
  have e3 : sumN (fun d => remS (jSg (sPush S c φ l) d)) (jSd S) = sumN (fun d => remS (jSg S d)) (jSd S) := sumN_congr _ (fun i hi => by
    show remS (if i = jSd S then 0 else jSg S i) = _
    rw [if_neg (by omega)])
  have e4 : jSg (sPush S c φ l) (jSd S) = 0 := if_pos rfl
  have e5 : jSd (sPush S c φ l) = jSd S + 1 := rfl
  have e6 : remS 0 = 18 := rfl
  rw [e5, e2, e3, e4, e6]
  omega
theorem RU0_stg {E : jEn} {G : jGh} {F : Nat} {nS pN bN lN' : Nat → Nat} {ty : Nat → Nat → Nat} {W : Nat → Nat} {D : Nat → jDs} {tk LO : Nat → Nat} {sl sp : Nat → Nat → Nat} {H : jHp} {S : jSt} {an : aV} {bt fc st lm go u sg : Nat} {τ ρ : jx_S} (h : RU1 E G F nS pN bN lN' ty W D tk LO sl sp H S u an bt fc st lm go τ ρ) (hd : 0 < jSd S) (hK : dK (D (jSk S (jSd S - 1))) ≠ 29) (h2 : dK (D (jSk S (jSd S - 1))) < 28 → sg = 2 → τ.2 81 (8 * (jSd S - 1)) = cV (jSw S (jSd S - 1) 0) ∧ ρ.2 165 (jSd S - 1) = rV (jSw S (jSd S - 1) 0)) (hst : stgOK (dK (D (jSk S (jSd S - 1)))) (dM (D (jSk S (jSd S - 1)))) sg) (hun : u ≤ unus (dK (D (jSk S (jSd S - 1)))) (dM (D (jSk S (jSd S - 1)))) sg) (hbd : sg < 2 → jSg S (jSd S - 1) < 2) : RU0 E G F nS pN bN lN' ty W D tk LO sl sp H (sSet S sg) 0 an bt fc st lm go (cStg τ (jSd S) sg) (rStg ρ (jSd S) (dK (D (jSk S (jSd S - 1)))) sg) := by
  obtain ⟨h1, ⟨hp, hc, hg, ho, hl⟩, ⟨⟨s1, s2, s3⟩, s4, s5⟩, hk, hH, ⟨i1, it, i2, i3, i4⟩, h13⟩ := h
  have hkp : ∀ d, d < jSd S → keptS D (sSet S sg) d = keptS D S d := fun d hd' => by
    show kept (dK (D (jSk S d))) (if d = jSd S - 1 then sg else jSg S d) = kept (dK (D (jSk S d))) (jSg S d)
    by_cases z : d = jSd S - 1
    · rw [z, kept_n hK, kept_n hK]
    · rw [if_neg z]
  have hsum : ∀ d, d ≤ jSd S → sumN (keptS D (sSet S sg)) d = sumN (keptS D S) d := fun d hd' => sumN_congr d (fun i hi => hkp i (by omega))
  refine ⟨RP_keep h1 (fun r hr => s_p_ne (fun z => by subst z; revert hr; decide)) rfl (fun r hr => s_i_ne (fun z => by subst z; revert hr; decide)), ⟨?_, ?_, ?_, ?_, ?_⟩, ⟨⟨?_, ?_, s3⟩, ?_, fun d hd' => ?_⟩, ?_, hH, ⟨fun d hd' => ?_, fun d hd' => ?_, i3, i4⟩, ?_⟩
  · unfold RPu at hp ⊢; unfold cStg rStg; simp (disch := first | assumption | decide | omega) only [nI_lit, cT_lt, cF_lt, cT_le, cF_le, cT_eq, cF_eq, nF_le, mF_eq, mG_eq, mT_lt, eq_self, nI_clamp, nI_add, Nat.add_zero, nI_sub, s_i_ne, s_i_eq, s_i_2, s_l_1, s_l_ne, s_l_eq, s_p_ne, s_p_eq, s_p_2, s_q_1, s_q_ne, s_q_eq, u_ne, u_eq, v_ne, v_eq, w_ne, w_eq, jI_at_in, jL_at_in, false_or, or_false, true_or, or_true, true_and, and_true, false_and, and_false, not_true_eq_false, not_false_eq_true, ↓reduceIte, Option.bind_some, Option.map_some]; exact hp
  · unfold RCe at hc ⊢; unfold cStg rStg; simp (disch := first | assumption | decide | omega) only [nI_lit, cT_lt, cF_lt, cT_le, cF_le, cT_eq, cF_eq, nF_le, mF_eq, mG_eq, mT_lt, eq_self, nI_clamp, nI_add, Nat.add_zero, nI_sub, s_i_ne, s_i_eq, s_i_2, s_l_1, s_l_ne, s_l_eq, s_p_ne, s_p_eq, s_p_2, s_q_1, s_q_ne, s_q_eq, u_ne, u_eq, v_ne, v_eq, w_ne, w_eq, jI_at_in, jL_at_in, false_or, or_false, true_or, or_true, true_and, and_true, false_and, and_false, not_true_eq_false, not_false_eq_true, ↓reduceIte, Option.bind_some, Option.map_some]; exact hc
  · unfold RPa at hg ⊢; unfold cStg rStg; simp (disch := first | assumption | decide | omega) only [nI_lit, cT_lt, cF_lt, cT_le, cF_le, cT_eq, cF_eq, nF_le, mF_eq, mG_eq, mT_lt, eq_self, nI_clamp, nI_add, Nat.add_zero, nI_sub, s_i_ne, s_i_eq, s_i_2, s_l_1, s_l_ne, s_l_eq, s_p_ne, s_p_eq, s_p_2, s_q_1, s_q_ne, s_q_eq, u_ne, u_eq, v_ne, v_eq, w_ne, w_eq, jI_at_in, jL_at_in, false_or, or_false, true_or, or_true, true_and, and_true, false_and, and_false, not_true_eq_false, not_false_eq_true, ↓reduceIte, Option.bind_some, Option.map_some]; exact hg
  · unfold RGo at ho ⊢; unfold cStg rStg; simp (disch := first | assumption | decide | omega) only [nI_lit, cT_lt, cF_lt, cT_le, cF_le, cT_eq, cF_eq, nF_le, mF_eq, mG_eq, mT_lt, eq_self, nI_clamp, nI_add, Nat.add_zero, nI_sub, s_i_ne, s_i_eq, s_i_2, s_l_1, s_l_ne, s_l_eq, s_p_ne, s_p_eq, s_p_2, s_q_1, s_q_ne, s_q_eq, u_ne, u_eq, v_ne, v_eq, w_ne, w_eq, jI_at_in, jL_at_in, false_or, or_false, true_or, or_true, true_and, and_true, false_and, and_false, not_true_eq_false, not_false_eq_true, ↓reduceIte, Option.bind_some, Option.map_some]; exact ho
  · unfold RLo at hl ⊢; unfold cStg rStg; simp (disch := first | assumption | decide | omega) only [nI_lit, cT_lt, cF_lt, cT_le, cF_le, cT_eq, cF_eq, nF_le, mF_eq, mG_eq, mT_lt, eq_self, nI_clamp, nI_add, Nat.add_zero, nI_sub, s_i_ne, s_i_eq, s_i_2, s_l_1, s_l_ne, s_l_eq, s_p_ne, s_p_eq, s_p_2, s_q_1, s_q_ne, s_q_eq, u_ne, u_eq, v_ne, v_eq, w_ne, w_eq, jI_at_in, jL_at_in, false_or, or_false, true_or, or_true, true_and, and_true, false_and, and_false, not_true_eq_false, not_false_eq_true, ↓reduceIte, Option.bind_some, Option.map_some]; exact hl
  · unfold cStg; simp (disch := first | assumption | decide | omega) only [nI_lit, cT_lt, cF_lt, cT_le, cF_le, cT_eq, cF_eq, nF_le, mF_eq, mG_eq, mT_lt, eq_self, nI_clamp, nI_add, Nat.add_zero, nI_sub, s_i_ne, s_i_eq, s_i_2, s_l_1, s_l_ne, s_l_eq, s_p_ne, s_p_eq, s_p_2, s_q_1, s_q_ne, s_q_eq, u_ne, u_eq, v_ne, v_eq, w_ne, w_eq, jI_at_in, jL_at_in, false_or, or_false, true_or, or_true, true_and, and_true, false_and, and_false, not_true_eq_false, not_false_eq_true, ↓reduceIte, Option.bind_some, Option.map_some]; exact s1
  · unfold rStg; simp (disch := first | assumption | decide | omega) only [nI_lit, cT_lt, cF_lt, cT_le, cF_le, cT_eq, cF_eq, nF_le, mF_eq, mG_eq, mT_lt, eq_self, nI_clamp, nI_add, Nat.add_zero, nI_sub, s_i_ne, s_i_eq, s_i_2, s_l_1, s_l_ne, s_l_eq, s_p_ne, s_p_eq, s_p_2, s_q_1, s_q_ne, s_q_eq, u_ne, u_eq, v_ne, v_eq, w_ne, w_eq, jI_at_in, jL_at_in, false_or, or_false, true_or, or_true, true_and, and_true, false_and, and_false, not_true_eq_false, not_false_eq_true, ↓reduceIte, Option.bind_some, Option.map_some]; exact s2
  · show _ = nI (sumN (keptS D (sSet S sg)) (jSd S))
    rw [hsum _ (Nat.le_refl _)]
    unfold rStg; simp (disch := first | assumption | decide | omega) only [nI_lit, cT_lt, cF_lt, cT_le, cF_le, cT_eq, cF_eq, nF_le, mF_eq, mG_eq, mT_lt, eq_self, nI_clamp, nI_add, Nat.add_zero, nI_sub, s_i_ne, s_i_eq, s_i_2, s_l_1, s_l_ne, s_l_eq, s_p_ne, s_p_eq, s_p_2, s_q_1, s_q_ne, s_q_eq, u_ne, u_eq, v_ne, v_eq, w_ne, w_eq, jI_at_in, jL_at_in, false_or, or_false, true_or, or_true, true_and, and_true, false_and, and_false, not_true_eq_false, not_false_eq_true, ↓reduceIte, Option.bind_some, Option.map_some]; exact s4
  · have hd2 : d < jSd S := hd'
    obtain ⟨t1, t2, t3, t4, t5, t6⟩ := s5 d hd2
    show ((cStg τ (jSd S) sg).1 75 d = nI (jSk S d + 1) ∧ (rStg ρ (jSd S) (dK (D (jSk S (jSd S - 1)))) sg).1 161 d = nI (jSk S d)) ∧ ((cStg τ (jSd S) sg).1 77 d = nI (jFb H (jSf S d)) ∧ (rStg ρ (jSd S) (dK (D (jSk S (jSd S - 1)))) sg).1 162 d = nI (jFb H (jSf S d))) ∧ ((cStg τ (jSd S) sg).1 79 d = nI (if d = jSd S - 1 then sg else jSg S d) ∧ (rStg ρ (jSd S) (dK (D (jSk S (jSd S - 1)))) sg).1 163 d = nI (rstg (dK (D (jSk S d))) (if d = jSd S - 1 then sg else jSg S d))) ∧ (rStg ρ (jSd S) (dK (D (jSk S (jSd S - 1)))) sg).1 164 d = (if jSl S d = 0 then -1 else nI (jSl S d - 1)) ∧ (∀ j, j < keptS D (sSet S sg) d → (cStg τ (jSd S) sg).2 81 (8 * d + j) = cV (jSw S d j) ∧ (rStg ρ (jSd S) (dK (D (jSk S (jSd S - 1)))) sg).2 166 (sumN (keptS D (sSet S sg)) d + j) = rV (jSw S d j)) ∧ (dK (D (jSk S d)) < 28 → (if d = jSd S - 1 then sg else jSg S d) = 2 → (cStg τ (jSd S) sg).2 81 (8 * d) = cV (jSw S d 0) ∧ (rStg ρ (jSd S) (dK (D (jSk S (jSd S - 1)))) sg).2 165 d = rV (jSw S d 0))
    rw [hkp d hd2, hsum d (by omega)]
    refine ⟨?_, ?_, ⟨?_, ?_⟩, ?_, t5, fun q1 q2 => ?_⟩
    · unfold cStg rStg; simp (disch := first | assumption | decide | omega) only [nI_lit, cT_lt, cF_lt, cT_le, cF_le, cT_eq, cF_eq, nF_le, mF_eq, mG_eq, mT_lt, eq_self, nI_clamp, nI_add, Nat.add_zero, nI_sub, s_i_ne, s_i_eq, s_i_2, s_l_1, s_l_ne, s_l_eq, s_p_ne, s_p_eq, s_p_2, s_q_1, s_q_ne, s_q_eq, u_ne, u_eq, v_ne, v_eq, w_ne, w_eq, jI_at_in, jL_at_in, false_or, or_false, true_or, or_true, true_and, and_true, false_and, and_false, not_true_eq_false, not_false_eq_true, ↓reduceIte, Option.bind_some, Option.map_some]; exact t1
    · unfold cStg rStg; simp (disch := first | assumption | decide | omega) only [nI_lit, cT_lt, cF_lt, cT_le, cF_le, cT_eq, cF_eq, nF_le, mF_eq, mG_eq, mT_lt, eq_self, nI_clamp, nI_add, Nat.add_zero, nI_sub, s_i_ne, s_i_eq, s_i_2, s_l_1, s_l_ne, s_l_eq, s_p_ne, s_p_eq, s_p_2, s_q_1, s_q_ne, s_q_eq, u_ne, u_eq, v_ne, v_eq, w_ne, w_eq, jI_at_in, jL_at_in, false_or, or_false, true_or, or_true, true_and, and_true, false_and, and_false, not_true_eq_false, not_false_eq_true, ↓reduceIte, Option.bind_some, Option.map_some]; exact t2
    · unfold cStg
      rw [s_p_eq, jI_up_in (by omega) (by omega)]
      by_cases z : d = jSd S - 1
      · rw [if_pos z, u_eq z]
      · rw [if_neg z, u_ne z]; exact t3.1
    · unfold rStg
      rw [s_i_eq]
      by_cases z : d = jSd S - 1
      · rw [if_pos z, u_eq z, z]
      · rw [if_neg z, u_ne z]; exact t3.2
    · unfold rStg; simp (disch := first | assumption | decide | omega) only [nI_lit, cT_lt, cF_lt, cT_le, cF_le, cT_eq, cF_eq, nF_le, mF_eq, mG_eq, mT_lt, eq_self, nI_clamp, nI_add, Nat.add_zero, nI_sub, s_i_ne, s_i_eq, s_i_2, s_l_1, s_l_ne, s_l_eq, s_p_ne, s_p_eq, s_p_2, s_q_1, s_q_ne, s_q_eq, u_ne, u_eq, v_ne, v_eq, w_ne, w_eq, jI_at_in, jL_at_in, false_or, or_false, true_or, or_true, true_and, and_true, false_and, and_false, not_true_eq_false, not_false_eq_true, ↓reduceIte, Option.bind_some, Option.map_some]; exact t4
    · by_cases z : d = jSd S - 1
      · rw [if_pos z] at q2
        subst z
        exact h2 q1 q2
      · rw [if_neg z] at q2
        exact t6 q1 q2
  · unfold RSc at hk ⊢; unfold cStg rStg; simp (disch := first | assumption | decide | omega) only [nI_lit, cT_lt, cF_lt, cT_le, cF_le, cT_eq, cF_eq, nF_le, mF_eq, mG_eq, mT_lt, eq_self, nI_clamp, nI_add, Nat.add_zero, nI_sub, s_i_ne, s_i_eq, s_i_2, s_l_1, s_l_ne, s_l_eq, s_p_ne, s_p_eq, s_p_2, s_q_1, s_q_ne, s_q_eq, u_ne, u_eq, v_ne, v_eq, w_ne, w_eq, jI_at_in, jL_at_in, false_or, or_false, true_or, or_true, true_and, and_true, false_and, and_false, not_true_eq_false, not_false_eq_true, ↓reduceIte, Option.bind_some, Option.map_some]; exact hk
  · have hd2 : d < jSd S := hd'
    have e3 : jSg (sSet S sg) d = if d = jSd S - 1 then sg else jSg S d := rfl
    show (jSf S d < jFn H ∧ nS (jFf H (jSf S d)) ≤ jSk S d ∧ jSk S d < nS (jFf H (jSf S d) + 1)) ∧ W (jSk S d) < 2 ∧ (∀ s, gV G (jSk S d) s → jLb H (jSf S d) s) ∧ jOw H (jSk S d) (jSf S d) = 0 ∧ stgOK (dK (D (jSk S d))) (dM (D (jSk S d))) (if d = jSd S - 1 then sg else jSg S d) ∧ (∀ i, unus (dK (D (jSk S d))) (dM (D (jSk S d))) (if d = jSd S - 1 then sg else jSg S d) ≤ i → i < dM (D (jSk S d)) → ∀ c, LO (dC (D (jSk S d)) i) ≤ c → c ≤ dC (D (jSk S d)) i → jOw H c (jSf S d) = 2 * d + 1) ∧ ((if d = jSd S - 1 then sg else jSg S d) < 2 → ∀ s, bsD D (jSk S d) s → ¬ jLb H (jSf S d) s) ∧ (jSl S d ≠ 0 → jSl S d ≤ jPn H ∧ jPs H (jSl S d - 1) = 1 ∧ W (jPk H (jSl S d - 1)) = W (jSk S d)) ∧ (∀ j, j < keptS D (sSet S sg) d → VT F pN bN ty W H (ty (dG (D (jSk S d))) j) (jSw S d j))
    rw [hkp d hd2]
    by_cases z : d = jSd S - 1
    · rw [if_pos z]
      subst z
      obtain ⟨t1, t2, t3, t4, t5, t6, t7, t8, t9⟩ := it hd
      exact ⟨t1, t2, t3, t4, hst, fun i q1 => t6 i (by omega), fun q => t7 (hbd q), t8, t9⟩
    · rw [if_neg z]
      obtain ⟨t1, t2, t3, t4, t5, t6, t7, t8, t9⟩ := i1 d (by omega)
      exact ⟨t1, t2, t3, t4, t5, t6, t7, t8, t9⟩
  · have hd2 : d + 1 < jSd S := hd'
    have e3 : jSg (sSet S sg) d = jSg S d := if_neg (by omega)
    unfold SW
    rw [e3]
    exact i2 d hd2
  · unfold cStg; simp (disch := first | assumption | decide | omega) only [nI_lit, cT_lt, cF_lt, cT_le, cF_le, cT_eq, cF_eq, nF_le, mF_eq, mG_eq, mT_lt, eq_self, nI_clamp, nI_add, Nat.add_zero, nI_sub, s_i_ne, s_i_eq, s_i_2, s_l_1, s_l_ne, s_l_eq, s_p_ne, s_p_eq, s_p_2, s_q_1, s_q_ne, s_q_eq, u_ne, u_eq, v_ne, v_eq, w_ne, w_eq, jI_at_in, jL_at_in, false_or, or_false, true_or, or_true, true_and, and_true, false_and, and_false, not_true_eq_false, not_false_eq_true, ↓reduceIte, Option.bind_some, Option.map_some]; exact h13
/-- a part of the top begins -/
theorem part_beg {E : jEn} {G : jGh} {F : Nat} {nS pN bN lN' : Nat → Nat} {ty : Nat → Nat → Nat} {W : Nat → Nat} {D : Nat → jDs} {tk LO : Nat → Nat} {sl sp : Nat → Nat → Nat} {H : jHp} {S : jSt} {an : aV} {bt fc st lm go i : Nat} {τ ρ : jx_S} (h : RU0 E G F nS pN bN lN' ty W D tk LO sl sp H S 0 an bt fc st lm go τ ρ) (hd : 0 < jSd S) (hz0 : BZ H S 0) (hi : i < dM (D (jSk S (jSd S - 1)))) (hsg : jSg S (jSd S - 1) ≠ 0) (hun : ∀ i', unus (dK (D (jSk S (jSd S - 1)))) (dM (D (jSk S (jSd S - 1)))) (jSg S (jSd S - 1)) ≤ i' → i' ≠ i) (hWc : W (dC (D (jSk S (jSd S - 1))) i) < 2) (hxt : W (dC (D (jSk S (jSd S - 1))) i) = xtyp W D (jSk S (jSd S - 1)) (jSg S (jSd S - 1))) (hno : dK (D (jSk S (jSd S - 1))) ≠ 28) (hvis : ∀ s, bnd (dK (D (jSk S (jSd S - 1)))) i (dS (D (jSk S (jSd S - 1)))) s → jLb H (jSf S (jSd S - 1)) s) (ho : ∀ x, LO (dC (D (jSk S (jSd S - 1))) i) ≤ x → x ≤ dC (D (jSk S (jSd S - 1))) i → jOw H x (jSf S (jSd S - 1)) = 2 * (jSd S - 1) + 1) : ∃ τ' ρ', p_cMac_begin (nI (dC (D (jSk S (jSd S - 1))) i + 1)) (nI (jFb H (jSf S (jSd S - 1)))) τ = some τ' ∧ p_r_begin (nI (dC (D (jSk S (jSd S - 1))) i)) (nI (jFb H (jSf S (jSd S - 1)))) (-1) ρ = some ρ' ∧ ((∃ H', EN H' go τ' ρ') ∨ ∃ H' S' an', RUN E G F nS pN bN lN' ty W D tk LO sl sp H' S' 0 an' bt fc (st + 1) lm go τ' ρ' ∧ mea S' (st + 1) lm = mea S st lm) := by
  have h' := h
  obtain ⟨h1, _, _, _, hH, ⟨i1, _⟩, _⟩ := h'
  have hse := i1 (jSd S - 1) (by omega)
  have hF := (hH.1.2 _ hse.1.1).1
  have hN := (h1.2.2 _ hF).2.2.2.2 _ hse.1.2.1 hse.1.2.2
  obtain ⟨k1, k2⟩ := kid_in hN hi
  obtain ⟨hA, _, _, _, _, _, _, _, _, _, ⟨l1, l2, l3, l4⟩, hkid, _⟩ := id hN
  have hcl : ∀ i', i' < dM (D (jSk S (jSd S - 1))) → LO (dC (D (jSk S (jSd S - 1))) i') ≤ dC (D (jSk S (jSd S - 1))) i' := fun i' hi' => by
    obtain ⟨z1, z2⟩ := kid_in hN hi'
    have z3 := (hkid i' hi').1
    have hN' := (h1.2.2 _ hF).2.2.2.2 (dC (D (jSk S (jSd S - 1))) i') (by omega) (by have := hse.1.2.2; omega)
    exact hN'.2.2.2.2.2.2.2.2.2.2.1.2.1
  -- parts lie one behind another
  have hord : ∀ n j, j + 1 + n < dM (D (jSk S (jSd S - 1))) → dC (D (jSk S (jSd S - 1))) j < LO (dC (D (jSk S (jSd S - 1))) (j + 1 + n)) := by
    intro n j
    induction n with
    | zero =>
      intro hn
      have := (hkid (j + 1) (by omega)).2.1
      rw [if_neg (by omega), Nat.add_sub_cancel] at this
      rw [Nat.add_zero, this]; omega
    | succ n ihn =>
      intro hn
      have z1 := ihn (by omega)
      have z2 := hcl (j + 1 + n) (by omega)
      have z3 := (hkid (j + 1 + (n + 1)) hn).2.1
      rw [if_neg (by omega), show j + 1 + (n + 1) - 1 = j + 1 + n by omega] at z3
      omega
  obtain ⟨τ', ρ', r1, r2, r3⟩ := run_beg (l := 0) (o := 2 * (jSd S - 1) + 1) h hz0 hse.1.1 (by have := (hkid i hi).1; omega) (by have := hse.1.2.2; omega) hWc (fun s hs => by
      rcases (hkid i hi).2.2.1 s hs with q | q
      · exact hse.2.2.1 s q
      · exact hvis s q) (by omega) ho (fun d hd' i' q1 q2 x q3 q4 q => by
      have hown := (i1 d hd').2.2.2.2.2.1 i' q1 q2 x q3 q4
      by_cases z : d = jSd S - 1
      · subst z
        have hne := hun i' q1
        rcases (show i' < i ∨ i < i' by omega) with y | y
        · have := hord (i - i' - 1) i' (by omega)
          rw [show i' + 1 + (i - i' - 1) = i by omega] at this
          omega
        · have := hord (i' - i - 1) i (by omega)
          rw [show i + 1 + (i' - i - 1) = i' by omega] at this
          omega
      · have := ho x q.2.1 q.2.2
        rw [q.1] at hown
        omega) (fun j hj q0 x q1 q2 q => by
      have hown := (hH.2.1.2 j hj).2.2.2.2.1 q0 x q1 q2
      have := ho x q.2.1 q.2.2
      rw [q.1] at hown
      omega) (fun _ => ⟨⟨hsg, fun q => absurd q hno, fun _ => rfl⟩, hxt⟩) (fun q => by omega) (fun q => absurd rfl q)
  rw [if_pos rfl] at r2
  refine ⟨τ', ρ', r1, r2, ?_⟩
  rcases r3 with r3 | ⟨r3, r4⟩
  · exact Or.inl ⟨H, r3⟩
  · exact Or.inr ⟨_, _, an, r4, mea_push r3⟩
