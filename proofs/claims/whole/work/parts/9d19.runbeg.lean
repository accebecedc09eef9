/-! RUNS, 19: a working begins, in both. -/
theorem sumN_congr {g h : Nat → Nat} : ∀ n, (∀ i, i < n → g i = h i) → sumN g n = sumN h n := by
  intro n
  induction n with
  | zero => intro _; rfl
  | succ n ih =>
    intro hh
    show sumN g n + g n = sumN h n + h n
    rw [ih (fun i hi => hh i (by omega)), hh n (by omega)]
theorem kept_push {D : Nat → jDs} {S : jSt} {c φ l d : Nat} (h : d < jSd S) : keptS D (sPush S c φ l) d = keptS D S d := by
  show kept (dK (D (if d = jSd S then c else jSk S d))) (if d = jSd S then 0 else jSg S d) = _
  rw [if_neg (by omega), if_neg (by omega)]; rfl
theorem kept_0 (K : Nat) : kept K 0 = 0 := by
  unfold kept
  split <;> rfl
theorem kid_in {E : jEn} {G : jGh} {F : Nat} {nS pN bN lN' : Nat → Nat} {ty : Nat → Nat → Nat} {W : Nat → Nat} {D : Nat → jDs} {tk LO : Nat → Nat} {sl sp : Nat → Nat → Nat} {f c i : Nat} {τ ρ : jx_S} (hN : RNd E G F nS pN bN lN' ty W D tk LO sl sp f τ ρ c) (hi : i < dM (D c)) : LO c ≤ LO (dC (D c) i) ∧ dC (D c) i < c := by
  obtain ⟨hA, _, _, _, _, _, _, _, _, _, _, hkid, _⟩ := hN
  refine ⟨?_, hA.2.2.1 i hi⟩
  rw [(hkid i hi).2.1]
  by_cases z : i = 0
  · rw [if_pos z]; exact Nat.le_refl _
  · rw [if_neg z]; have := (hkid (i - 1) (by omega)).1; omega
theorem run_beg {E : jEn} {G : jGh} {F : Nat} {nS pN bN lN' : Nat → Nat} {ty : Nat → Nat → Nat} {W : Nat → Nat} {D : Nat → jDs} {tk LO : Nat → Nat} {sl sp : Nat → Nat → Nat} {H : jHp} {S : jSt} {an : aV} {bt fc st lm go c φ l o : Nat} {τ ρ : jx_S} (h : RU0 E G F nS pN bN lN' ty W D tk LO sl sp H S 0 an bt fc st lm go τ ρ) (hz0 : BZ H S l) (hφ : φ < jFn H) (hc1 : nS (jFf H φ) ≤ c) (hc2 : c < nS (jFf H φ + 1)) (hW : W c < 2) (hvis : ∀ s, gV G c s → jLb H φ s) (ho0 : o ≠ 0) (ho : ∀ x, LO c ≤ x → x ≤ c → jOw H x φ = o)
    (hd1 : ∀ d, d < jSd S → ∀ i, unus (dK (D (jSk S d))) (dM (D (jSk S d))) (jSg S d) ≤ i → i < dM (D (jSk S d)) → ∀ x, LO (dC (D (jSk S d)) i) ≤ x → x ≤ dC (D (jSk S d)) i → ¬ (jSf S d = φ ∧ LO c ≤ x ∧ x ≤ c))
    (hd2 : ∀ i, i < jPn H → jPs H i = 0 → ∀ x, LO (jPk H i) ≤ x → x ≤ jPk H i → ¬ (jPf H i = φ ∧ LO c ≤ x ∧ x ≤ c))
    (hw : 0 < jSd S → SW W D H S (jSd S - 1) l ∧ W c = xtyp W D (jSk S (jSd S - 1)) (jSg S (jSd S - 1))) (hw0 : jSd S = 0 → W c = bt ∧ l = fc)
    (hl : l ≠ 0 → l ≤ jPn H ∧ jPs H (l - 1) = 1 ∧ W (jPk H (l - 1)) = W c ∧ ∀ d, d < jSd S → jSl S d ≠ l) :
    ∃ τ' ρ', p_cMac_begin (nI (c + 1)) (nI (jFb H φ)) τ = some τ' ∧ p_r_begin (nI c) (nI (jFb H φ)) (if l = 0 then -1 else nI (l - 1)) ρ = some ρ' ∧ (EN H go τ' ρ' ∨ (st < lm ∧ RUN E G F nS pN bN lN' ty W D tk LO sl sp (hBeg LO H c φ (jSd S)) (sPush S c φ l) 0 an bt fc (st + 1) lm go τ' ρ')) := by
  obtain ⟨h1, ⟨⟨p1, p2, p3⟩, ⟨c1, c2, c3⟩, ⟨g1, g2, g3⟩, ⟨o1, o2, o3⟩, l1, l2, l3⟩, ⟨⟨s1, s2, s3⟩, s4, s5⟩, ⟨k1, k2, ⟨k3, k3a, k3b, k3c⟩, ⟨k4, k4a⟩, ⟨dd, k5, k5a, k5b⟩, ⟨k6, k6a⟩, k7, k8, k9⟩, hH, ⟨i1, i2, i3, i4⟩, h13⟩ := h
  have hF1 := (hH.1.2 φ hφ).1
  have hN := (h1.2.2 (jFf H φ) hF1).2.2.2.2 c hc1 hc2
  have hlo : LO c ≤ c := hN.2.2.2.2.2.2.2.2.2.2.1.2.1
  have ec := c_begin (k := c) (b := jFb H φ) s1 s3 k3 (by omega) k4 k3c k5a k5
  have er := r_begin (k := c) (b := jFb H φ) (l := if l = 0 then -1 else nI (l - 1)) s2 s3 k3a (by omega) k4a k3c k5b k5
  have hend : ∀ en : Nat, 2 ≤ en → en ≤ 5 → EN H go (jx_i τ 8 14 (nI en)) (jx_i ρ 106 87 (nI en)) := fun en h2 h5 => by
    refine ⟨⟨en, h2, h5, by simp (disch := first | assumption | decide | omega) only [nI_lit, cT_lt, cF_lt, cT_le, cF_le, cT_eq, cF_eq, nF_le, mF_eq, mG_eq, mT_lt, eq_self, nI_clamp, nI_add, Nat.add_zero, nI_sub, s_i_ne, s_i_eq, s_i_2, s_l_1, s_l_ne, s_l_eq, s_p_ne, s_p_eq, s_p_2, s_q_1, s_q_ne, s_q_eq, u_ne, u_eq, v_ne, v_eq, w_ne, w_eq, jI_at_in, jL_at_in, false_or, or_false, true_or, or_true, true_and, and_true, false_and, and_false, not_true_eq_false, not_false_eq_true, ↓reduceIte, Option.bind_some, Option.map_some], by simp (disch := first | assumption | decide | omega) only [nI_lit, cT_lt, cF_lt, cT_le, cF_le, cT_eq, cF_eq, nF_le, mF_eq, mG_eq, mT_lt, eq_self, nI_clamp, nI_add, Nat.add_zero, nI_sub, s_i_ne, s_i_eq, s_i_2, s_l_1, s_l_ne, s_l_eq, s_p_ne, s_p_eq, s_p_2, s_q_1, s_q_ne, s_q_eq, u_ne, u_eq, v_ne, v_eq, w_ne, w_eq, jI_at_in, jL_at_in, false_or, or_false, true_or, or_true, true_and, and_true, false_and, and_false, not_true_eq_false, not_false_eq_true, ↓reduceIte, Option.bind_some, Option.map_some]⟩, ⟨?_, ?_, ?_, ?_⟩, ?_, ⟨hH.2.1.1, ?_, ?_, ?_, fun i hi => ?_⟩, ⟨?_, ?_, ?_⟩, ?_, ?_, ?_⟩
    · simp (disch := first | assumption | decide | omega) only [k3, k3a, nI_lit, cT_lt, cF_lt, cT_le, cF_le, cT_eq, cF_eq, nF_le, mF_eq, mG_eq, mT_lt, eq_self, nI_clamp, nI_add, Nat.add_zero, nI_sub, s_i_ne, s_i_eq, s_i_2, s_l_1, s_l_ne, s_l_eq, s_p_ne, s_p_eq, s_p_2, s_q_1, s_q_ne, s_q_eq, u_ne, u_eq, v_ne, v_eq, w_ne, w_eq, jI_at_in, jL_at_in, false_or, or_false, true_or, or_true, true_and, and_true, false_and, and_false, not_true_eq_false, not_false_eq_true, ↓reduceIte, Option.bind_some, Option.map_some]
    · simp (disch := first | assumption | decide | omega) only [k5a, k5b, nI_lit, cT_lt, cF_lt, cT_le, cF_le, cT_eq, cF_eq, nF_le, mF_eq, mG_eq, mT_lt, eq_self, nI_clamp, nI_add, Nat.add_zero, nI_sub, s_i_ne, s_i_eq, s_i_2, s_l_1, s_l_ne, s_l_eq, s_p_ne, s_p_eq, s_p_2, s_q_1, s_q_ne, s_q_eq, u_ne, u_eq, v_ne, v_eq, w_ne, w_eq, jI_at_in, jL_at_in, false_or, or_false, true_or, or_true, true_and, and_true, false_and, and_false, not_true_eq_false, not_false_eq_true, ↓reduceIte, Option.bind_some, Option.map_some]
    · simp (disch := first | assumption | decide | omega) only [nI_lit, cT_lt, cF_lt, cT_le, cF_le, cT_eq, cF_eq, nF_le, mF_eq, mG_eq, mT_lt, eq_self, nI_clamp, nI_add, Nat.add_zero, nI_sub, s_i_ne, s_i_eq, s_i_2, s_l_1, s_l_ne, s_l_eq, s_p_ne, s_p_eq, s_p_2, s_q_1, s_q_ne, s_q_eq, u_ne, u_eq, v_ne, v_eq, w_ne, w_eq, jI_at_in, jL_at_in, false_or, or_false, true_or, or_true, true_and, and_true, false_and, and_false, not_true_eq_false, not_false_eq_true, ↓reduceIte, Option.bind_some, Option.map_some]; exact k6
    · simp (disch := first | assumption | decide | omega) only [nI_lit, cT_lt, cF_lt, cT_le, cF_le, cT_eq, cF_eq, nF_le, mF_eq, mG_eq, mT_lt, eq_self, nI_clamp, nI_add, Nat.add_zero, nI_sub, s_i_ne, s_i_eq, s_i_2, s_l_1, s_l_ne, s_l_eq, s_p_ne, s_p_eq, s_p_2, s_q_1, s_q_ne, s_q_eq, u_ne, u_eq, v_ne, v_eq, w_ne, w_eq, jI_at_in, jL_at_in, false_or, or_false, true_or, or_true, true_and, and_true, false_and, and_false, not_true_eq_false, not_false_eq_true, ↓reduceIte, Option.bind_some, Option.map_some]; exact k6a
    · simp (disch := first | assumption | decide | omega) only [c1, c2, nI_lit, cT_lt, cF_lt, cT_le, cF_le, cT_eq, cF_eq, nF_le, mF_eq, mG_eq, mT_lt, eq_self, nI_clamp, nI_add, Nat.add_zero, nI_sub, s_i_ne, s_i_eq, s_i_2, s_l_1, s_l_ne, s_l_eq, s_p_ne, s_p_eq, s_p_2, s_q_1, s_q_ne, s_q_eq, u_ne, u_eq, v_ne, v_eq, w_ne, w_eq, jI_at_in, jL_at_in, false_or, or_false, true_or, or_true, true_and, and_true, false_and, and_false, not_true_eq_false, not_false_eq_true, ↓reduceIte, Option.bind_some, Option.map_some]
    · simp (disch := first | assumption | decide | omega) only [p1, nI_lit, cT_lt, cF_lt, cT_le, cF_le, cT_eq, cF_eq, nF_le, mF_eq, mG_eq, mT_lt, eq_self, nI_clamp, nI_add, Nat.add_zero, nI_sub, s_i_ne, s_i_eq, s_i_2, s_l_1, s_l_ne, s_l_eq, s_p_ne, s_p_eq, s_p_2, s_q_1, s_q_ne, s_q_eq, u_ne, u_eq, v_ne, v_eq, w_ne, w_eq, jI_at_in, jL_at_in, false_or, or_false, true_or, or_true, true_and, and_true, false_and, and_false, not_true_eq_false, not_false_eq_true, ↓reduceIte, Option.bind_some, Option.map_some]
    · simp (disch := first | assumption | decide | omega) only [p2, nI_lit, cT_lt, cF_lt, cT_le, cF_le, cT_eq, cF_eq, nF_le, mF_eq, mG_eq, mT_lt, eq_self, nI_clamp, nI_add, Nat.add_zero, nI_sub, s_i_ne, s_i_eq, s_i_2, s_l_1, s_l_ne, s_l_eq, s_p_ne, s_p_eq, s_p_2, s_q_1, s_q_ne, s_q_eq, u_ne, u_eq, v_ne, v_eq, w_ne, w_eq, jI_at_in, jL_at_in, false_or, or_false, true_or, or_true, true_and, and_true, false_and, and_false, not_true_eq_false, not_false_eq_true, ↓reduceIte, Option.bind_some, Option.map_some]
    · simp (disch := first | assumption | decide | omega) only [h13, nI_lit, cT_lt, cF_lt, cT_le, cF_le, cT_eq, cF_eq, nF_le, mF_eq, mG_eq, mT_lt, eq_self, nI_clamp, nI_add, Nat.add_zero, nI_sub, s_i_ne, s_i_eq, s_i_2, s_l_1, s_l_ne, s_l_eq, s_p_ne, s_p_eq, s_p_2, s_q_1, s_q_ne, s_q_eq, u_ne, u_eq, v_ne, v_eq, w_ne, w_eq, jI_at_in, jL_at_in, false_or, or_false, true_or, or_true, true_and, and_true, false_and, and_false, not_true_eq_false, not_false_eq_true, ↓reduceIte, Option.bind_some, Option.map_some]
    · have := (p3 i hi).2.2.1.2
      rw [if_neg (by omega)] at this
      exact ⟨by simp (disch := first | assumption | decide | omega) only [nI_lit, cT_lt, cF_lt, cT_le, cF_le, cT_eq, cF_eq, nF_le, mF_eq, mG_eq, mT_lt, eq_self, nI_clamp, nI_add, Nat.add_zero, nI_sub, s_i_ne, s_i_eq, s_i_2, s_l_1, s_l_ne, s_l_eq, s_p_ne, s_p_eq, s_p_2, s_q_1, s_q_ne, s_q_eq, u_ne, u_eq, v_ne, v_eq, w_ne, w_eq, jI_at_in, jL_at_in, false_or, or_false, true_or, or_true, true_and, and_true, false_and, and_false, not_true_eq_false, not_false_eq_true, ↓reduceIte, Option.bind_some, Option.map_some]; exact this, (hH.2.1.2 i hi).2.2.1⟩
    · simp (disch := first | assumption | decide | omega) only [k8, nI_lit, cT_lt, cF_lt, cT_le, cF_le, cT_eq, cF_eq, nF_le, mF_eq, mG_eq, mT_lt, eq_self, nI_clamp, nI_add, Nat.add_zero, nI_sub, s_i_ne, s_i_eq, s_i_2, s_l_1, s_l_ne, s_l_eq, s_p_ne, s_p_eq, s_p_2, s_q_1, s_q_ne, s_q_eq, u_ne, u_eq, v_ne, v_eq, w_ne, w_eq, jI_at_in, jL_at_in, false_or, or_false, true_or, or_true, true_and, and_true, false_and, and_false, not_true_eq_false, not_false_eq_true, ↓reduceIte, Option.bind_some, Option.map_some]
    · simp (disch := first | assumption | decide | omega) only [k8, nI_lit, cT_lt, cF_lt, cT_le, cF_le, cT_eq, cF_eq, nF_le, mF_eq, mG_eq, mT_lt, eq_self, nI_clamp, nI_add, Nat.add_zero, nI_sub, s_i_ne, s_i_eq, s_i_2, s_l_1, s_l_ne, s_l_eq, s_p_ne, s_p_eq, s_p_2, s_q_1, s_q_ne, s_q_eq, u_ne, u_eq, v_ne, v_eq, w_ne, w_eq, jI_at_in, jL_at_in, false_or, or_false, true_or, or_true, true_and, and_true, false_and, and_false, not_true_eq_false, not_false_eq_true, ↓reduceIte, Option.bind_some, Option.map_some]
    · simp (disch := first | assumption | decide | omega) only [k8, nI_lit, cT_lt, cF_lt, cT_le, cF_le, cT_eq, cF_eq, nF_le, mF_eq, mG_eq, mT_lt, eq_self, nI_clamp, nI_add, Nat.add_zero, nI_sub, s_i_ne, s_i_eq, s_i_2, s_l_1, s_l_ne, s_l_eq, s_p_ne, s_p_eq, s_p_2, s_q_1, s_q_ne, s_q_eq, u_ne, u_eq, v_ne, v_eq, w_ne, w_eq, jI_at_in, jL_at_in, false_or, or_false, true_or, or_true, true_and, and_true, false_and, and_false, not_true_eq_false, not_false_eq_true, ↓reduceIte, Option.bind_some, Option.map_some]
    · simp (disch := first | assumption | decide | omega) only [k9, nI_lit, cT_lt, cF_lt, cT_le, cF_le, cT_eq, cF_eq, nF_le, mF_eq, mG_eq, mT_lt, eq_self, nI_clamp, nI_add, Nat.add_zero, nI_sub, s_i_ne, s_i_eq, s_i_2, s_l_1, s_l_ne, s_l_eq, s_p_ne, s_p_eq, s_p_2, s_q_1, s_q_ne, s_q_eq, u_ne, u_eq, v_ne, v_eq, w_ne, w_eq, jI_at_in, jL_at_in, false_or, or_false, true_or, or_true, true_and, and_true, false_and, and_false, not_true_eq_false, not_false_eq_true, ↓reduceIte, Option.bind_some, Option.map_some]
    · simp (disch := first | assumption | decide | omega) only [k9, nI_lit, cT_lt, cF_lt, cT_le, cF_le, cT_eq, cF_eq, nF_le, mF_eq, mG_eq, mT_lt, eq_self, nI_clamp, nI_add, Nat.add_zero, nI_sub, s_i_ne, s_i_eq, s_i_2, s_l_1, s_l_ne, s_l_eq, s_p_ne, s_p_eq, s_p_2, s_q_1, s_q_ne, s_q_eq, u_ne, u_eq, v_ne, v_eq, w_ne, w_eq, jI_at_in, jL_at_in, false_or, or_false, true_or, or_true, true_and, and_true, false_and, and_false, not_true_eq_false, not_false_eq_true, ↓reduceIte, Option.bind_some, Option.map_some]
    · simp (disch := first | assumption | decide | omega) only [k9, nI_lit, cT_lt, cF_lt, cT_le, cF_le, cT_eq, cF_eq, nF_le, mF_eq, mG_eq, mT_lt, eq_self, nI_clamp, nI_add, Nat.add_zero, nI_sub, s_i_ne, s_i_eq, s_i_2, s_l_1, s_l_ne, s_l_eq, s_p_ne, s_p_eq, s_p_2, s_q_1, s_q_ne, s_q_eq, u_ne, u_eq, v_ne, v_eq, w_ne, w_eq, jI_at_in, jL_at_in, false_or, or_false, true_or, or_true, true_and, and_true, false_and, and_false, not_true_eq_false, not_false_eq_true, ↓reduceIte, Option.bind_some, Option.map_some]
  by_cases z1 : jSd S = 250
  · rw [if_pos z1] at ec er
    exact ⟨_, _, ec, er, Or.inl (hend 4 (by omega) (by omega))⟩
  · rw [if_neg z1] at ec er
    by_cases z2 : st = lm
    · rw [if_pos z2] at ec er
      exact ⟨_, _, ec, er, Or.inl (hend 3 (by omega) (by omega))⟩
    · rw [if_neg z2] at ec er
      refine ⟨_, _, ec, er, Or.inr ⟨by omega, ?_⟩⟩
      clear ec er hend
      obtain ⟨a1, a2, a3, ⟨a4, a4a, a4b⟩, a5, a6⟩ := @cBeg_1 τ (jSd S) c (jFb H φ) st dd (by omega)
      obtain ⟨b1, b2, ⟨b3, b3a, b3b⟩, b4, b5⟩ := @rBeg_1 ρ (jSd S) c (jFb H φ) st dd (if l = 0 then -1 else nI (l - 1))
      generalize cBeg τ (jSd S) c (jFb H φ) st dd = τ' at *
      generalize rBeg ρ (jSd S) c (jFb H φ) st dd (if l = 0 then -1 else nI (l - 1)) = ρ' at *
      have hsum : ∀ d, d ≤ jSd S → sumN (keptS D (sPush S c φ l)) d = sumN (keptS D S) d := fun d hd => sumN_congr d (fun i hi => kept_push (by omega))
      have hkn : keptS D (sPush S c φ l) (jSd S) = 0 := by
        show kept (dK (D (if jSd S = jSd S then c else jSk S (jSd S)))) (if jSd S = jSd S then 0 else jSg S (jSd S)) = 0
        rw [if_pos rfl, if_pos rfl]; exact kept_0 _
      have howo : ∀ x ψ, ¬ (ψ = φ ∧ LO c ≤ x ∧ x ≤ c) → jOw (hBeg LO H c φ (jSd S)) x ψ = jOw H x ψ := fun x ψ hz => by
        show (if ψ = φ ∧ x = c then 0 else if ψ = φ ∧ LO c ≤ x ∧ x < c then 2 * jSd S + 1 else jOw H x ψ) = _
        rw [if_neg (fun q => hz ⟨q.1, by omega, by omega⟩), if_neg (fun q => hz ⟨q.1, q.2.1, by omega⟩)]
      refine ⟨⟨RP_keep h1 (fun r hr => a1 r (by revert hr; revert r; decide)) (by rw [a6]) (fun r hr => b1 r (by revert hr; revert r; decide)), ⟨⟨?_, ?_, fun i hi => ?_⟩, ⟨?_, ?_, fun x hx => ?_⟩, ⟨?_, ?_, fun p hp => ?_⟩, ⟨?_, ?_, fun x hx hg => ?_⟩, ?_, ?_, fun ψ hψ s hs hb => ?_⟩, ⟨⟨a3, b3, ?_⟩, ?_, fun d hd' => ?_⟩, ⟨?_, ?_, ⟨a4, b3b, by omega, k3c⟩, ⟨?_, ?_⟩, ⟨maxN (jSd S + 1) dd, ?_, a4a, b3a⟩, ⟨?_, ?_⟩, ?_, ⟨?_, ?_, ?_⟩, ?_, ?_, ?_⟩, HI_beg hH ho0 ho hd2 hlo, ⟨fun d hd' => ?_, fun d hd' => ?_, fun hd' => ?_, fun d e hd' he' hz hq => ?_⟩, ?_⟩, ⟨fun hd' => ?_, fun hd' => Or.inl ⟨?_, rfl⟩, fun hz => absurd rfl hz, fun d hd' hz hq => absurd hq hz, fun i hi hs => Or.inr ?_⟩, fun hq => ?_⟩
      · rw [a1 9 (by decide)]; exact p1
      · rw [b2 67 (by decide)]; exact p2
      · rw [a1 89 (by decide), b1 151 (by decide), a1 91 (by decide), b1 152 (by decide), a1 93 (by decide), b1 153 (by decide), a6, b5]; exact p3 i hi
      · rw [a1 9 (by decide)]; exact c1
      · rw [b2 70 (by decide)]; exact c2
      · rw [a6, b5]; exact c3 x hx
      · rw [a1 9 (by decide)]; exact g1
      · rw [b2 74 (by decide)]; exact g2
      · rw [a6, b5, a1 103 (by decide), b1 158 (by decide), a1 105 (by decide), b1 159 (by decide)]; exact g3 p hp
      · rw [a1 9 (by decide)]; exact o1
      · rw [b2 76 (by decide)]; exact o2
      · rw [a6, b5]; exact o3 x hx hg
      · rw [a1 9 (by decide)]; exact l1
      · rw [b2 62 (by decide)]; exact l2
      · rw [a6, b5]; exact l3 ψ hψ s hs hb
      · show jSd S + 1 ≤ 250
        omega
      · rw [b2 85 (by decide), s4]
        show _ = nI (sumN (keptS D (sPush S c φ l)) (jSd S) + keptS D (sPush S c φ l) (jSd S))
        rw [hkn, hsum _ (Nat.le_refl _), Nat.add_zero]
      · have hd2' : d < jSd S + 1 := hd'
        obtain ⟨q1, q2, q3⟩ := a5 d
        obtain ⟨r1, r2, r3, r4⟩ := b4 d
        show (τ'.1 75 d = nI ((if d = jSd S then c else jSk S d) + 1) ∧ ρ'.1 161 d = nI (if d = jSd S then c else jSk S d)) ∧ (τ'.1 77 d = nI (jFb H (if d = jSd S then φ else jSf S d)) ∧ ρ'.1 162 d = nI (jFb H (if d = jSd S then φ else jSf S d))) ∧ (τ'.1 79 d = nI (if d = jSd S then 0 else jSg S d) ∧ ρ'.1 163 d = nI (rstg (dK (D (if d = jSd S then c else jSk S d))) (if d = jSd S then 0 else jSg S d))) ∧ ρ'.1 164 d = (if (if d = jSd S then l else jSl S d) = 0 then -1 else nI ((if d = jSd S then l else jSl S d) - 1)) ∧ (∀ j, j < keptS D (sPush S c φ l) d → τ'.2 81 (8 * d + j) = cV (jSw S d j) ∧ ρ'.2 166 (sumN (keptS D (sPush S c φ l)) d + j) = rV (jSw S d j)) ∧ (dK (D (if d = jSd S then c else jSk S d)) < 28 → (if d = jSd S then 0 else jSg S d) = 2 → τ'.2 81 (8 * d) = cV (jSw S d 0) ∧ ρ'.2 165 d = rV (jSw S d 0))
        rw [q1, q2, q3, r1, r2, r3, r4, a6, b5]
        by_cases z : d = jSd S
        · simp only [if_pos z]
          refine ⟨⟨by first | rfl | trivial, by first | rfl | trivial⟩, ⟨by first | rfl | trivial, by first | rfl | trivial⟩, ⟨by first | rfl | trivial, ?_⟩, by first | rfl | trivial, fun j hj => ?_, fun _ q => by omega⟩
          · have : rstg (dK (D c)) 0 = 0 := by
              unfold rstg
              rw [if_neg (by omega)]
              split <;> omega
            rw [this]; rfl
          · rw [z, hkn] at hj; omega
        · simp only [if_neg z]
          obtain ⟨t1, t2, t3, t4, t5, t6⟩ := s5 d (by omega)
          refine ⟨t1, t2, t3, t4, fun j hj => ?_, t6⟩
          rw [kept_push (by omega)] at hj
          rw [hsum d (by omega)]
          exact t5 j hj
      · rw [a2 14 (by decide)]; exact k1
      · rw [b2 87 (by decide)]; exact k2
      · rw [a2 12 (by decide)]; exact k4
      · rw [b2 89 (by decide)]; exact k4a
      · unfold maxN; split <;> omega
      · rw [a4b 8 (by decide) (by decide), b2 91 (by decide)]; exact k6
      · rw [a4b 9 (by decide) (by decide), b2 92 (by decide)]; exact k6a
      · rw [a2 13 (by decide), b2 86 (by decide)]; exact k7
      · rw [a4b 5 (by decide) (by decide)]; exact k8.1
      · rw [a4b 6 (by decide) (by decide)]; exact k8.2.1
      · rw [a4b 7 (by decide) (by decide)]; exact k8.2.2
      · rw [b2 93 (by decide)]; exact k9.1
      · rw [b2 95 (by decide)]; exact k9.2.1
      · rw [b2 96 (by decide)]; exact k9.2.2
      · have hd2' : d < jSd S + 1 := hd'
        by_cases z : d = jSd S
        · subst z
          unfold SE
          have e1 : jSk (sPush S c φ l) (jSd S) = c := if_pos rfl
          have e2 : jSf (sPush S c φ l) (jSd S) = φ := if_pos rfl
          have e3 : jSg (sPush S c φ l) (jSd S) = 0 := if_pos rfl
          have e4 : jSl (sPush S c φ l) (jSd S) = l := if_pos rfl
          rw [e1, e2, e3, e4, hkn]
          refine ⟨⟨hφ, hc1, hc2⟩, hW, hvis, ?_, Or.inl rfl, fun i hi1 hi2 x q1 q2 => ?_, fun _ s hs => ?_, fun hz => ?_, fun j hj => absurd hj (by omega)⟩
          · show (if φ = φ ∧ c = c then 0 else _) = 0
            rw [if_pos ⟨rfl, rfl⟩]
          · obtain ⟨y1, y2⟩ := kid_in hN hi2
            show (if φ = φ ∧ x = c then 0 else if φ = φ ∧ LO c ≤ x ∧ x < c then 2 * jSd S + 1 else jOw H x φ) = _
            rw [if_neg (fun q => by omega), if_pos ⟨rfl, by omega, by omega⟩]
          · exact hH.2.2.1.2 φ hφ c hc1 hc2 (by rw [ho c hlo (Nat.le_refl _)]; exact ho0) s hs
          · obtain ⟨y1, y2, y3, _⟩ := hl hz
            exact ⟨y1, y2, y3⟩
        · obtain ⟨t1, t2, t3, t4, t5, t6, t7, t8, t9⟩ := i1 d (by omega)
          unfold SE
          have e1 : jSk (sPush S c φ l) d = jSk S d := if_neg z
          have e2 : jSf (sPush S c φ l) d = jSf S d := if_neg z
          have e3 : jSg (sPush S c φ l) d = jSg S d := if_neg z
          have e4 : jSl (sPush S c φ l) d = jSl S d := if_neg z
          rw [e1, e2, e3, e4, kept_push (by omega)]
          refine ⟨t1, t2, t3, ?_, t5, fun i hi1 hi2 x q1 q2 => ?_, t7, t8, t9⟩
          · rw [howo _ _ (fun q => by
              have := ho (jSk S d) q.2.1 q.2.2
              rw [q.1] at t4
              omega)]
            exact t4
          · rw [howo _ _ (hd1 d (by omega) i hi1 hi2 x q1 q2)]
            exact t6 i hi1 hi2 x q1 q2
      · have hd2' : d + 1 < jSd S + 1 := hd'
        have e1 : jSk (sPush S c φ l) d = jSk S d := if_neg (by omega)
        have e2 : jSf (sPush S c φ l) d = jSf S d := if_neg (by omega)
        have e3 : jSg (sPush S c φ l) d = jSg S d := if_neg (by omega)
        unfold SW
        rw [e1, e2, e3]
        by_cases z : d + 1 = jSd S
        · have e4 : jSl (sPush S c φ l) (d + 1) = l := if_pos z
          have e5 : jSk (sPush S c φ l) (d + 1) = c := if_pos z
          rw [e4, e5]
          have q := hw (by omega)
          rw [show jSd S - 1 = d by omega] at q
          exact q
        · have e4 : jSl (sPush S c φ l) (d + 1) = jSl S (d + 1) := if_neg z
          have e5 : jSk (sPush S c φ l) (d + 1) = jSk S (d + 1) := if_neg z
          rw [e4, e5]
          exact i2 d (by omega)
      · by_cases z : 0 = jSd S
        · have e4 : jSl (sPush S c φ l) 0 = l := if_pos z
          have e5 : jSk (sPush S c φ l) 0 = c := if_pos z
          rw [e4, e5]; exact hw0 z.symm
        · have e4 : jSl (sPush S c φ l) 0 = jSl S 0 := if_neg z
          have e5 : jSk (sPush S c φ l) 0 = jSk S 0 := if_neg z
          rw [e4, e5]; exact i3 (by omega)
      · have hd2' : d < jSd S + 1 := hd'
        have he2' : e < jSd S + 1 := he'
        have ed : jSl (sPush S c φ l) d = if d = jSd S then l else jSl S d := rfl
        have ee : jSl (sPush S c φ l) e = if e = jSd S then l else jSl S e := rfl
        rw [ed] at hz hq
        rw [ee] at hq
        by_cases y1 : d = jSd S
        · by_cases y2 : e = jSd S
          · omega
          · rw [if_pos y1] at hz hq
            rw [if_neg y2] at hq
            exact absurd hq.symm ((hl hz).2.2.2 e (by omega))
        · rw [if_neg y1] at hz hq
          by_cases y2 : e = jSd S
          · rw [if_pos y2] at hq
            exact absurd hq ((hl (by omega)).2.2.2 d (by omega))
          · rw [if_neg y2] at hq
            exact i4 d e (by omega) (by omega) hz hq
      · rw [a1 9 (by decide)]; exact h13
      · have hd2' : jSd S + 1 = 0 := hd'
        omega
      · show (if jSd S + 1 - 1 = jSd S then 0 else jSg S (jSd S + 1 - 1)) = 0
        exact if_pos (by omega)
      · rcases hz0 i hi hs with q | ⟨d, q1, q2⟩
        · exact ⟨jSd S, Nat.lt_succ_self _, (show (if jSd S = jSd S then l else jSl S (jSd S)) = i + 1 by rw [if_pos rfl]; exact q)⟩
        · exact ⟨d, show d < jSd S + 1 by omega, (show (if d = jSd S then l else jSl S d) = i + 1 by rw [if_neg (by omega)]; exact q2)⟩
      · exfalso
        rcases hq with q | q
        · have hd2' : jSd S + 1 = 0 := q
          omega
        · exact q (show (if jSd S + 1 - 1 = jSd S then 0 else jSg S (jSd S + 1 - 1)) = 0 from if_pos (by omega))
