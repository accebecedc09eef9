/-! RUNS, 23: ticks: signs. -/
theorem sg_ty {F : Nat} {pN bN : Nat → Nat} {ty : Nat → Nat → Nat} {f : Nat} {W : Nat → Nat} {d : jDs} {k : Nat} (h : okT F pN bN ty f W d k) (hK : dK d = 19 ∨ (23 ≤ dK d ∧ dK d ≤ 27)) : dM d = 2 ∧ W k = 0 ∧ W (dC d 0) = 0 ∧ W (dC d 1) = 0 := by
  unfold okT at h
  rcases h with h | h | h | ⟨_, h⟩ | h | h | h | h | h | h
  · omega
  · omega
  · omega
  · exact h
  · omega
  · omega
  · omega
  · omega
  · omega
  · omega
theorem kept8 {E : jEn} {G : jGh} {F : Nat} {nS pN bN lN' : Nat → Nat} {ty : Nat → Nat → Nat} {W : Nat → Nat} {D : Nat → jDs} {tk LO : Nat → Nat} {sl sp : Nat → Nat → Nat} {H : jHp} {S : jSt} {d : Nat} {τ ρ : jx_S} (h1 : RP E G F nS pN bN lN' ty W D tk LO sl sp τ ρ) (hH : HI E G F nS pN bN lN' ty W D tk LO sl sp H (fun x => x < jAn H)) (hse : SE E G F nS pN bN lN' ty W D tk LO sl sp H S d) : keptS D S d < 8 := by
  have hF := (hH.1.2 _ hse.1.1).1
  have hN := (h1.2.2 _ hF).2.2.2.2 _ hse.1.2.1 hse.1.2.2
  by_cases z : dK (D (jSk S d)) = 29 ∧ jSg S d % 2 = 1
  · have h8 : dM (D (jSk S d)) ≤ 8 := by
      have hT := hN.2.1
      unfold okT at hT
      rcases hT with w | w | w | w | w | w | w | w | w | w
      · omega
      · omega
      · omega
      · omega
      · omega
      · omega
      · omega
      · omega
      · omega
      · have := (h1.2.2 _ w.2.1).2.1.1; omega
    have h5 := hse.2.2.2.2.1
    unfold stgOK at h5
    unfold keptS kept
    rw [if_pos z]
    omega
  · unfold keptS kept
    rw [if_neg z]; omega
theorem c_sgn {E : jEn} {τ ρ : jx_S} {k tk sg : Nat} {d : jDs} (hA : AN E τ ρ k tk d) (hs : sg < 100) (hk : dK d = 19 ∨ (23 ≤ dK d ∧ dK d ≤ 27)) : p_cMac_workOn (nI (k + 1)) (nI sg) τ = p_cMac_workSign (nI (k + 1)) (nI sg) τ := by
  have hkn : ∀ m, m < 100 → dK d ≠ m → ¬ nI (dK d) = nI m := fun m hm q z => q ((nI_eq (by omega) (by omega)).1 z)
  rw [c_wo hA (by omega), if_neg (by omega), if_neg (show ¬ nI (dK d) = (2 : Int32) from hkn 2 (by omega) (by omega)), if_neg (show ¬ nI (dK d) = (5 : Int32) from hkn 5 (by omega) (by omega)), if_neg (show ¬ nI (dK d) = (7 : Int32) from hkn 7 (by omega) (by omega)), if_neg (show ¬ nI (dK d) = (10 : Int32) from hkn 10 (by omega) (by omega)), if_neg (show ¬ nI (dK d) = (13 : Int32) from hkn 13 (by omega) (by omega)), if_neg (show ¬ nI (dK d) = (14 : Int32) from hkn 14 (by omega) (by omega)), if_neg (show ¬ nI (dK d) = (15 : Int32) from hkn 15 (by omega) (by omega)), if_neg (show ¬ nI (dK d) = (28 : Int32) from hkn 28 (by omega) (by omega)), if_neg (show ¬ nI (dK d) = (29 : Int32) from hkn 29 (by omega) (by omega))]
  unfold p_cMac_workOn_247
  cases p_cMac_workSign (nI (k + 1)) (nI sg) τ <;> rfl
theorem r_sgn {ρ : jx_S} {dp k b o : Nat} (h82 : ρ.1 106 82 = nI dp) (hd : 0 < dp) (hd2 : dp ≤ 250) (h87 : ρ.1 106 87 = 0) (h161 : ρ.1 161 (dp - 1) = nI k) (hk : k < 1200) (h162 : ρ.1 162 (dp - 1) = nI b) (h112 : ρ.1 112 k = nI o) (ho : o = 19 ∨ (23 ≤ o ∧ o ≤ 27)) : p_r_go_0_s ρ = p_r_go_197 (nI (dp - 1)) (nI k) (nI b) ρ := by
  have hkn : ∀ m, m < 100 → o ≠ m → ¬ nI o = nI m := fun m hm q z => q ((nI_eq (by omega) (by omega)).1 z)
  rw [r_goh h82 hd hd2 h87 h161 hk h162 h112, if_neg (show ¬ nI o = (1 : Int32) from hkn 1 (by omega) (by omega)), if_neg (show ¬ nI o = (2 : Int32) from hkn 2 (by omega) (by omega)), if_neg (show ¬ nI o = (5 : Int32) from hkn 5 (by omega) (by omega)), if_neg (show ¬ nI o = (7 : Int32) from hkn 7 (by omega) (by omega)), if_neg (show ¬ nI o = (10 : Int32) from hkn 10 (by omega) (by omega)), if_neg (show ¬ nI o = (13 : Int32) from hkn 13 (by omega) (by omega)), if_neg (show ¬ nI o = (14 : Int32) from hkn 14 (by omega) (by omega)), if_neg (show ¬ nI o = (15 : Int32) from hkn 15 (by omega) (by omega))]
/-- a part of a sign begins -/
theorem sg_beg {E : jEn} {G : jGh} {F : Nat} {nS pN bN lN' : Nat → Nat} {ty : Nat → Nat → Nat} {W : Nat → Nat} {D : Nat → jDs} {tk LO : Nat → Nat} {sl sp : Nat → Nat → Nat} {H : jHp} {S : jSt} {an : aV} {bt fc st lm go i : Nat} {τ ρ : jx_S} (h : RU0 E G F nS pN bN lN' ty W D tk LO sl sp H S 0 an bt fc st lm go τ ρ) (hd : 0 < jSd S) (hz0 : BZ H S 0) (hk : dK (D (jSk S (jSd S - 1))) = 19 ∨ (23 ≤ dK (D (jSk S (jSd S - 1))) ∧ dK (D (jSk S (jSd S - 1))) ≤ 27)) (hi : i < 2) (hsg : jSg S (jSd S - 1) = i) (h2 : i = 1 → τ.2 81 (8 * (jSd S - 1)) = cV (jSw S (jSd S - 1) 0) ∧ ρ.2 165 (jSd S - 1) = rV (jSw S (jSd S - 1) 0)) : ∃ τ' ρ', p_cMac_beginPart (nI (dC (D (jSk S (jSd S - 1))) i + 1)) (nI (i + 1)) τ = some τ' ∧ p_r_begin (nI (dC (D (jSk S (jSd S - 1))) i)) (nI (jFb H (jSf S (jSd S - 1)))) (-1) (jx_i ρ 163 (jSd S - 1) (nI (i + 1))) = some ρ' ∧ NX E G F nS pN bN lN' ty W D tk LO sl sp S bt fc st lm go 1 τ' ρ' := by
  have h' := h
  obtain ⟨h1, _, ⟨⟨s1, _, s3⟩, _, s5⟩, _, hH, ⟨i1, _⟩, _⟩ := h'
  have hse := i1 (jSd S - 1) (by omega)
  obtain ⟨_, t2, _⟩ := s5 (jSd S - 1) (by omega)
  have hF := (hH.1.2 _ hse.1.1).1
  have hN := (h1.2.2 _ hF).2.2.2.2 _ hse.1.2.1 hse.1.2.2
  obtain ⟨u1, u2, u3, u4⟩ := sg_ty hN.2.1 hk
  have e2 : v_cMac_frame τ = nI (jFb H (jSf S (jSd S - 1))) := by
    unfold v_cMac_frame
    rw [show τ.1 8 11 - 1 = nI (jSd S - 1) by rw [s1]; exact nI_sub (b := 1) (by omega), jI_at_in (by omega) (by omega), t2.1]
  have hun : ∀ sg, sg < 100 → unus (dK (D (jSk S (jSd S - 1)))) (dM (D (jSk S (jSd S - 1)))) sg = sg := fun sg q => by unfold unus; rw [if_neg (by omega), if_neg (by omega)]
  have hR := RU0_stg (sg := i + 1) (RU1_of h) hd (by omega) (fun _ q => h2 (by omega)) (Or.inr (Or.inr (Or.inr (Or.inr (Or.inr ⟨hk, by omega⟩))))) (by rw [hsg, hun _ (by omega), hun _ (by omega)]; omega) (fun q => by omega)
  have hW : W (dC (D (jSk S (jSd S - 1))) i) = 0 := by
    rcases (show i = 0 ∨ i = 1 by omega) with z | z
    · rw [z]; exact u3
    · rw [z]; exact u4
  obtain ⟨τ', ρ', r1, r2, r3⟩ := part_beg (i := i) hR hd hz0 (show i < dM (D (jSk S (jSd S - 1))) by omega) (by rw [set_at]; omega) (fun i' q => by
      rw [set_at] at q
      have q' : unus (dK (D (jSk S (jSd S - 1)))) (dM (D (jSk S (jSd S - 1)))) (i + 1) ≤ i' := q
      rw [hun _ (by omega)] at q'
      omega) (show W (dC (D (jSk S (jSd S - 1))) i) < 2 by rw [hW]; omega) (by
      rw [set_at]
      show W (dC (D (jSk S (jSd S - 1))) i) = xtyp W D (jSk S (jSd S - 1)) (i + 1)
      unfold xtyp
      rw [if_neg (by omega), if_neg (by omega), if_neg (by omega), if_neg (by omega), hW]) (show dK (D (jSk S (jSd S - 1))) ≠ 28 by omega) (fun s q => by
      have q' : bnd (dK (D (jSk S (jSd S - 1)))) i (dS (D (jSk S (jSd S - 1)))) s := q
      unfold bnd at q'; omega) (fun x q1 q2 => hse.2.2.2.2.2.1 i (by rw [hsg, hun _ (by omega)]; omega) (by omega) x q1 q2)
  have er : rstg (dK (D (jSk S (jSd S - 1)))) (i + 1) = i + 1 := by unfold rstg; rw [if_neg (by omega), if_neg (by omega)]
  have r2' : p_r_begin (nI (dC (D (jSk S (jSd S - 1))) i)) (nI (jFb H (jSf S (jSd S - 1)))) (-1) (jx_i ρ 163 (jSd S - 1) (nI (rstg (dK (D (jSk S (jSd S - 1)))) (i + 1)))) = some ρ' := r2
  rw [er] at r2'
  have hms := mea_set (S := S) (st := st) (lm := lm) (sg := i + 1) hd
  have hr0 : remS (i + 1) + 1 = remS i := by
    unfold remS; rw [if_neg (by omega), if_neg (by omega)]; omega
  rw [hsg] at hms
  refine ⟨τ', ρ', (c_bp s1 hd e2).trans r1, r2', ?_⟩
  rcases r3 with r3 | ⟨H', S', an', r3, r4⟩
  · exact Or.inl r3
  · exact Or.inr ⟨H', S', 0, an', st + 1, r3, by omega⟩
theorem tick_sg0 {E : jEn} {G : jGh} {F : Nat} {nS pN bN lN' : Nat → Nat} {ty : Nat → Nat → Nat} {W : Nat → Nat} {D : Nat → jDs} {tk LO : Nat → Nat} {sl sp : Nat → Nat → Nat} {H : jHp} {S : jSt} {pd : Nat} {an : aV} {bt fc st lm go : Nat} {τ ρ : jx_S} (h : RUN E G F nS pN bN lN' ty W D tk LO sl sp H S pd an bt fc st lm go τ ρ) (hd : 0 < jSd S) (hk : dK (D (jSk S (jSd S - 1))) = 19 ∨ (23 ≤ dK (D (jSk S (jSd S - 1))) ∧ dK (D (jSk S (jSd S - 1))) ≤ 27)) (hsg0 : jSg S (jSd S - 1) = 0) : ∃ τ' ρ', tk1 τ = some τ' ∧ p_r_go_0_s ρ = some (.inl ρ') ∧ NX E G F nS pN bN lN' ty W D tk LO sl sp S bt fc st lm go 1 τ' ρ' := by
  obtain ⟨e1, e2, hse, hF, hN, ⟨e3, e4, e5⟩, s1, s2, s3, k2, hsg, hk12⟩ := top_of h hd
  have hpd := pd_0 h hd hsg0
  subst hpd
  have hA := hN.1
  obtain ⟨u1, u2, u3, u4⟩ := sg_ty hN.2.1 hk
  obtain ⟨τ', ρ', r1, r2, r3⟩ := sg_beg (i := 0) h.1 hd h.2.1.2.2.2.2 hk (by omega) hsg0 (fun q => by omega)
  have hni : ¬ (nI (jSd S - 1) < 0 ∨ 251 ≤ jSd S - 1) := fun z => by
    rcases z with z | z
    · exact nI_pos (by omega) z
    · omega
  have hni2 : ¬ (nI (jSk S (jSd S - 1)) < 0 ∨ 3000 ≤ jSk S (jSd S - 1)) := fun z => by
    rcases z with z | z
    · exact nI_pos (by omega) z
    · omega
  refine ⟨τ', ρ', ?_, ?_, r3⟩
  · rw [e1, hsg0, c_sgn hA (by omega) hk]
    unfold p_cMac_workSign
    rw [if_neg (show ¬ ¬ nI 0 = 0 from fun z => z rfl), show p_cTre_part (nI (jSk S (jSd S - 1) + 1)) (0 : Int32) τ = _ from c_kid (i := 0) hA (by omega), Option.bind_some]
    show ((p_cMac_beginPart (nI (dC (D (jSk S (jSd S - 1))) 0 + 1)) (nI (0 + 1)) τ).bind _) = _
    rw [r1]; rfl
  · have er : rstg (dK (D (jSk S (jSd S - 1)))) 0 = 0 := by unfold rstg; rw [if_neg (by omega), if_neg (by omega)]
    rw [hsg0, er] at e5
    have h112 := hA.2.2.2.2.2.1
    rw [if_neg (show ¬ 28 ≤ dK (D (jSk S (jSd S - 1))) by omega)] at h112
    rw [r_sgn s2 hd s3 k2 e3 hk12 e4 h112 hk]
    unfold p_r_go_197 p_r_workBinary
    have r2' : p_r_begin (nI (dC (D (jSk S (jSd S - 1))) 0)) (nI (jFb H (jSf S (jSd S - 1)))) (-1) (jx_i ρ 163 (jSd S - 1) (1 : Int32)) = some ρ' := r2
    rw [nI_clamp (show jSd S - 1 < 2 ^ 31 by omega), if_neg hni, e5, if_neg (fun z => z rfl), if_neg hni, nI_clamp (show jSk S (jSd S - 1) < 2 ^ 31 by omega), if_neg hni2, hA.2.2.2.2.2.2.2.2.2.1 (by omega), r2']; rfl
/-- what was worked waits -/
def sWv (S : jSt) (v : aV) : jSt := (jSd S, jSk S, jSf S, jSg S, jSl S, fun d j => if d = jSd S - 1 ∧ j = 0 then v else jSw S d j)
theorem RU0_wv {E : jEn} {G : jGh} {F : Nat} {nS pN bN lN' : Nat → Nat} {ty : Nat → Nat → Nat} {W : Nat → Nat} {D : Nat → jDs} {tk LO : Nat → Nat} {sl sp : Nat → Nat → Nat} {H : jHp} {S : jSt} {an v : aV} {bt fc st lm go : Nat} {τ ρ : jx_S} (h : RU0 E G F nS pN bN lN' ty W D tk LO sl sp H S 0 an bt fc st lm go τ ρ) (hd : 0 < jSd S) (hK : dK (D (jSk S (jSd S - 1))) ≠ 29) (hs : jSg S (jSd S - 1) ≠ 2) : RU0 E G F nS pN bN lN' ty W D tk LO sl sp H (sWv S v) 0 an bt fc st lm go (jL_put 2000 τ 81 (nI (8 * (jSd S - 1))) (cV v)) (jx_l ρ 165 (jSd S - 1) (rV v)) := by
  obtain ⟨h1, ⟨hp, hc, hg, ho, hl⟩, ⟨⟨s1, s2, s3⟩, s4, s5⟩, hk, hH, ⟨i1, i2, i3, i4⟩, h13⟩ := h
  refine ⟨RP_keep h1 (fun r hr => rfl) (by simp (disch := first | assumption | decide | omega) only [nI_lit, cT_lt, cF_lt, cT_le, cF_le, cT_eq, cF_eq, nF_le, mF_eq, mG_eq, mT_lt, eq_self, nI_clamp, nI_add, Nat.add_zero, nI_sub, s_i_ne, s_i_eq, s_i_2, s_l_1, s_l_ne, s_l_eq, s_p_ne, s_p_eq, s_p_2, s_q_1, s_q_ne, s_q_eq, u_ne, u_eq, v_ne, v_eq, w_ne, w_eq, jI_at_in, jL_at_in, false_or, or_false, true_or, or_true, true_and, and_true, false_and, and_false, not_true_eq_false, not_false_eq_true, ↓reduceIte, Option.bind_some, Option.map_some]) (fun r hr => rfl), ⟨?_, ?_, ?_, ?_, ?_⟩, ⟨⟨s1, s2, s3⟩, s4, fun d hd' => ?_⟩, ?_, hH, ⟨fun d hd' => ?_, fun d hd' => ?_, i3, i4⟩, ?_⟩
  · unfold RPu at hp ⊢; simp (disch := first | assumption | decide | omega) only [nI_lit, cT_lt, cF_lt, cT_le, cF_le, cT_eq, cF_eq, nF_le, mF_eq, mG_eq, mT_lt, eq_self, nI_clamp, nI_add, Nat.add_zero, nI_sub, s_i_ne, s_i_eq, s_i_2, s_l_1, s_l_ne, s_l_eq, s_p_ne, s_p_eq, s_p_2, s_q_1, s_q_ne, s_q_eq, u_ne, u_eq, v_ne, v_eq, w_ne, w_eq, jI_at_in, jL_at_in, false_or, or_false, true_or, or_true, true_and, and_true, false_and, and_false, not_true_eq_false, not_false_eq_true, ↓reduceIte, Option.bind_some, Option.map_some]; exact hp
  · unfold RCe at hc ⊢; simp (disch := first | assumption | decide | omega) only [nI_lit, cT_lt, cF_lt, cT_le, cF_le, cT_eq, cF_eq, nF_le, mF_eq, mG_eq, mT_lt, eq_self, nI_clamp, nI_add, Nat.add_zero, nI_sub, s_i_ne, s_i_eq, s_i_2, s_l_1, s_l_ne, s_l_eq, s_p_ne, s_p_eq, s_p_2, s_q_1, s_q_ne, s_q_eq, u_ne, u_eq, v_ne, v_eq, w_ne, w_eq, jI_at_in, jL_at_in, false_or, or_false, true_or, or_true, true_and, and_true, false_and, and_false, not_true_eq_false, not_false_eq_true, ↓reduceIte, Option.bind_some, Option.map_some]; exact hc
  · unfold RPa at hg ⊢; simp (disch := first | assumption | decide | omega) only [nI_lit, cT_lt, cF_lt, cT_le, cF_le, cT_eq, cF_eq, nF_le, mF_eq, mG_eq, mT_lt, eq_self, nI_clamp, nI_add, Nat.add_zero, nI_sub, s_i_ne, s_i_eq, s_i_2, s_l_1, s_l_ne, s_l_eq, s_p_ne, s_p_eq, s_p_2, s_q_1, s_q_ne, s_q_eq, u_ne, u_eq, v_ne, v_eq, w_ne, w_eq, jI_at_in, jL_at_in, false_or, or_false, true_or, or_true, true_and, and_true, false_and, and_false, not_true_eq_false, not_false_eq_true, ↓reduceIte, Option.bind_some, Option.map_some]; exact hg
  · unfold RGo at ho ⊢; simp (disch := first | assumption | decide | omega) only [nI_lit, cT_lt, cF_lt, cT_le, cF_le, cT_eq, cF_eq, nF_le, mF_eq, mG_eq, mT_lt, eq_self, nI_clamp, nI_add, Nat.add_zero, nI_sub, s_i_ne, s_i_eq, s_i_2, s_l_1, s_l_ne, s_l_eq, s_p_ne, s_p_eq, s_p_2, s_q_1, s_q_ne, s_q_eq, u_ne, u_eq, v_ne, v_eq, w_ne, w_eq, jI_at_in, jL_at_in, false_or, or_false, true_or, or_true, true_and, and_true, false_and, and_false, not_true_eq_false, not_false_eq_true, ↓reduceIte, Option.bind_some, Option.map_some]; exact ho
  · unfold RLo at hl ⊢; simp (disch := first | assumption | decide | omega) only [nI_lit, cT_lt, cF_lt, cT_le, cF_le, cT_eq, cF_eq, nF_le, mF_eq, mG_eq, mT_lt, eq_self, nI_clamp, nI_add, Nat.add_zero, nI_sub, s_i_ne, s_i_eq, s_i_2, s_l_1, s_l_ne, s_l_eq, s_p_ne, s_p_eq, s_p_2, s_q_1, s_q_ne, s_q_eq, u_ne, u_eq, v_ne, v_eq, w_ne, w_eq, jI_at_in, jL_at_in, false_or, or_false, true_or, or_true, true_and, and_true, false_and, and_false, not_true_eq_false, not_false_eq_true, ↓reduceIte, Option.bind_some, Option.map_some]; exact hl
  · have hd2 : d < jSd S := hd'
    obtain ⟨t1, t2, t3, t4, t5, t6⟩ := s5 d hd2
    refine ⟨t1, t2, t3, t4, fun j hj => ?_, fun q1 q2 => ?_⟩
    · have hj' : j < keptS D S d := hj
      have hz : d ≠ jSd S - 1 := fun z => by
        unfold keptS at hj'
        rw [z, kept_n hK] at hj'; omega
      have hj8 := kept8 h1 hH (i1 d hd2)
      have e : jSw (sWv S v) d j = jSw S d j := if_neg (fun q => hz q.1)
      rw [e]
      obtain ⟨t7, t8⟩ := t5 j hj'
      refine ⟨?_, ?_⟩
      · rw [s_q_eq, jL_up_in (by omega) (by omega), v_ne (by omega)]; exact t7
      · simp (disch := first | assumption | decide | omega) only [nI_lit, cT_lt, cF_lt, cT_le, cF_le, cT_eq, cF_eq, nF_le, mF_eq, mG_eq, mT_lt, eq_self, nI_clamp, nI_add, Nat.add_zero, nI_sub, s_i_ne, s_i_eq, s_i_2, s_l_1, s_l_ne, s_l_eq, s_p_ne, s_p_eq, s_p_2, s_q_1, s_q_ne, s_q_eq, u_ne, u_eq, v_ne, v_eq, w_ne, w_eq, jI_at_in, jL_at_in, false_or, or_false, true_or, or_true, true_and, and_true, false_and, and_false, not_true_eq_false, not_false_eq_true, ↓reduceIte, Option.bind_some, Option.map_some]; exact t8
    · have q2' : jSg S d = 2 := q2
      have hz : d ≠ jSd S - 1 := fun z => by rw [z] at q2'; omega
      have e : jSw (sWv S v) d 0 = jSw S d 0 := if_neg (fun q => hz q.1)
      rw [e]
      obtain ⟨t7, t8⟩ := t6 q1 q2'
      refine ⟨?_, ?_⟩
      · rw [s_q_eq, jL_up_in (by omega) (by omega), v_ne (by omega)]; exact t7
      · rw [s_l_eq, v_ne hz]; exact t8
  · unfold RSc at hk ⊢; simp (disch := first | assumption | decide | omega) only [nI_lit, cT_lt, cF_lt, cT_le, cF_le, cT_eq, cF_eq, nF_le, mF_eq, mG_eq, mT_lt, eq_self, nI_clamp, nI_add, Nat.add_zero, nI_sub, s_i_ne, s_i_eq, s_i_2, s_l_1, s_l_ne, s_l_eq, s_p_ne, s_p_eq, s_p_2, s_q_1, s_q_ne, s_q_eq, u_ne, u_eq, v_ne, v_eq, w_ne, w_eq, jI_at_in, jL_at_in, false_or, or_false, true_or, or_true, true_and, and_true, false_and, and_false, not_true_eq_false, not_false_eq_true, ↓reduceIte, Option.bind_some, Option.map_some]; exact hk
  · have hd2 : d < jSd S := hd'
    obtain ⟨t1, t2, t3, t4, t5, t6, t7, t8, t9⟩ := i1 d hd2
    refine ⟨t1, t2, t3, t4, t5, t6, t7, t8, fun j hj => ?_⟩
    have hj' : j < keptS D S d := hj
    have hz : d ≠ jSd S - 1 := fun z => by
      unfold keptS at hj'
      rw [z, kept_n hK] at hj'; omega
    have e : jSw (sWv S v) d j = jSw S d j := if_neg (fun q => hz q.1)
    rw [e]
    exact t9 j hj'
  · exact i2 d hd'
  · exact h13
