/-! RUNS, 20: one tick: what holds itself; the last stage; an error. -/
def tk1 (τ : jx_S) : Option jx_S := p_cMac_workOn (jI_at 250 (τ.1 75) (τ.1 8 11 - 1)) (jI_at 250 (τ.1 79) (τ.1 8 11 - 1)) τ
/-- how both go on -/
def NX (E : jEn) (G : jGh) (F : Nat) (nS pN bN lN' : Nat → Nat) (ty : Nat → Nat → Nat) (W : Nat → Nat) (D : Nat → jDs) (tk LO : Nat → Nat) (sl sp : Nat → Nat → Nat) (S : jSt) (bt fc st lm go j : Nat) (τ ρ : jx_S) : Prop := (∃ H', EN H' go τ ρ) ∨ ∃ H' S' pd' an' st', RUN E G F nS pN bN lN' ty W D tk LO sl sp H' S' pd' an' bt fc st' lm go τ ρ ∧ mea S' st' lm + j ≤ mea S st lm
theorem r_goh {ρ : jx_S} {dp k b o : Nat} (h82 : ρ.1 106 82 = nI dp) (hd : 0 < dp) (hd2 : dp ≤ 250) (h87 : ρ.1 106 87 = 0) (h161 : ρ.1 161 (dp - 1) = nI k) (hk : k < 1200) (h162 : ρ.1 162 (dp - 1) = nI b) (h112 : ρ.1 112 k = nI o) : p_r_go_0_s ρ = (if nI o = 1 then ((p_r_workName (nI (dp - 1)) (nI k) (nI b) ρ).bind fun q3 => (p_r_go_204 q3)) else (if nI o = 2 then (if (ρ.1 113 k) < 0 ∨ 1202 ≤ (ρ.1 113 k).toNatClampNeg then none else ((p_r_finish (v_r_tagged (0 : Int64) (ρ.1 111 (ρ.1 113 k).toNatClampNeg) ρ) ρ).bind fun q4 => (p_r_go_204 q4))) else (if nI o = 5 then ((p_r_workLet (nI (dp - 1)) (nI k) (nI b) ρ).bind fun q5 => (p_r_go_204 q5)) else (if nI o = 7 then (p_r_go_168 (nI (dp - 1)) (nI k) (nI b) ρ) else (if nI o = 10 then (p_r_go_168 (nI (dp - 1)) (nI k) (nI b) ρ) else (if nI o = 13 then ((p_r_finish (v_r_tagged (1 : Int64) (0 : Int32) ρ) ρ).bind fun q7 => (p_r_go_204 q7)) else (if nI o = 14 then ((p_r_workCons (nI k) (nI b) ρ).bind fun q8 => (p_r_go_204 q8)) else (if nI o = 15 then (p_r_go_204 (jx_i ρ 106 87 (2 : Int32))) else (p_r_go_197 (nI (dp - 1)) (nI k) (nI b) ρ))))))))) := by
  have hni : ¬ (nI (dp - 1) < 0 ∨ 251 ≤ dp - 1) := fun z => by
    rcases z with z | z
    · exact nI_pos (by omega) z
    · omega
  have hni2 : ¬ (nI k < 0 ∨ 3000 ≤ k) := fun z => by
    rcases z with z | z
    · exact nI_pos (by omega) z
    · omega
  unfold p_r_go_0_s
  rw [h82, if_neg (nI_nle (by omega) (by omega)), h87, if_neg (fun z => z rfl), show nI dp - (1 : Int32) = nI (dp - 1) from nI_sub (b := 1) (by omega), nI_clamp (show dp - 1 < 2 ^ 31 by omega), if_neg hni, if_neg hni, h161, h162, nI_clamp (show k < 2 ^ 31 by omega), if_neg hni2, if_neg hni2, h112]
theorem mea_pop {S : jSt} {st lm : Nat} (h : 0 < jSd S) : mea (sPop S) st lm + remS (jSg S (jSd S - 1)) = mea S st lm := by
  unfold mea
  have e : sumN (fun d => remS (jSg S d)) (jSd S - 1 + 1) = sumN (fun d => remS (jSg S d)) (jSd S - 1) + remS (jSg S (jSd S - 1)) := rfl
  rw [show jSd S - 1 + 1 = jSd S by omega] at e
  rw [e]
  show 18 * (lm - st) + sumN (fun d => remS (jSg S d)) (jSd S - 1) + remS (jSg S (jSd S - 1)) = _
  omega
/-- what is known at the top -/
theorem top_of {E : jEn} {G : jGh} {F : Nat} {nS pN bN lN' : Nat → Nat} {ty : Nat → Nat → Nat} {W : Nat → Nat} {D : Nat → jDs} {tk LO : Nat → Nat} {sl sp : Nat → Nat → Nat} {H : jHp} {S : jSt} {pd : Nat} {an : aV} {bt fc st lm go : Nat} {τ ρ : jx_S} (h : RUN E G F nS pN bN lN' ty W D tk LO sl sp H S pd an bt fc st lm go τ ρ) (hd : 0 < jSd S) : tk1 τ = p_cMac_workOn (nI (jSk S (jSd S - 1) + 1)) (nI (jSg S (jSd S - 1))) τ ∧ v_cMac_frame τ = nI (jFb H (jSf S (jSd S - 1))) ∧ SE E G F nS pN bN lN' ty W D tk LO sl sp H S (jSd S - 1) ∧ jFf H (jSf S (jSd S - 1)) < F ∧ RNd E G F nS pN bN lN' ty W D tk LO sl sp (jFf H (jSf S (jSd S - 1))) τ ρ (jSk S (jSd S - 1)) ∧ (ρ.1 161 (jSd S - 1) = nI (jSk S (jSd S - 1)) ∧ ρ.1 162 (jSd S - 1) = nI (jFb H (jSf S (jSd S - 1))) ∧ ρ.1 163 (jSd S - 1) = nI (rstg (dK (D (jSk S (jSd S - 1)))) (jSg S (jSd S - 1)))) ∧ τ.1 8 11 = nI (jSd S) ∧ ρ.1 106 82 = nI (jSd S) ∧ jSd S ≤ 250 ∧ ρ.1 106 87 = 0 ∧ jSg S (jSd S - 1) ≤ 100 ∧ jSk S (jSd S - 1) < 1200 := by
  obtain ⟨⟨h1, _, ⟨⟨s1, s2, s3⟩, s4, s5⟩, ⟨k1, k2, _⟩, hH, ⟨i1, _⟩, _⟩, _, _⟩ := h
  have hse := i1 (jSd S - 1) (by omega)
  obtain ⟨t1, t2, t3, t4, _⟩ := s5 (jSd S - 1) (by omega)
  have hF := (hH.1.2 _ hse.1.1).1
  have hN := (h1.2.2 _ hF).2.2.2.2 _ hse.1.2.1 hse.1.2.2
  have hk := hN.1.1
  have hm := hN.1.2.1
  have e1 : τ.1 8 11 - 1 = nI (jSd S - 1) := by rw [s1]; exact nI_sub (b := 1) (by omega)
  have hsg : jSg S (jSd S - 1) ≤ 100 := by
    have h5 := hse.2.2.2.2.1
    have h8 : dK (D (jSk S (jSd S - 1))) = 29 → dM (D (jSk S (jSd S - 1))) ≤ 8 := fun q => by
      have hT := hN.2.1
      unfold okT at hT
      rcases hT with w | w | w | w | w | w | w | w | w | w
      · omega
      · omega
      · omega
      · omega
      · omega
      · omega
      · omega
      · omega
      · omega
      · have := (h1.2.2 _ w.2.1).2.1.1; omega
    unfold stgOK at h5
    rcases h5 with w | w | w | w | w | w
    · omega
    · omega
    · omega
    · have := h8 w.1; omega
    · omega
    · omega
  refine ⟨?_, ?_, hse, hF, hN, ⟨t1.2, t2.2, t3.2⟩, s1, s2, s3, k2, hsg, hk⟩
  · unfold tk1
    rw [e1, jI_at_in (by omega) (by omega), jI_at_in (by omega) (by omega), t1.1, t3.1]
  · unfold v_cMac_frame
    rw [e1, jI_at_in (by omega) (by omega), t2.1]
theorem kept_e {K sg : Nat} (h : sg % 2 ≠ 1) : kept K sg = 0 := by
  unfold kept; rw [if_neg (by omega)]
theorem litR {E : jEn} {G : jGh} {F : Nat} {nS pN bN lN' : Nat → Nat} {ty : Nat → Nat → Nat} {W : Nat → Nat} {D : Nat → jDs} {tk LO : Nat → Nat} {sl sp : Nat → Nat → Nat} {g c : Nat} {τ ρ : jx_S} (hN : RNd E G F nS pN bN lN' ty W D tk LO sl sp g τ ρ c) (hE : eC E ≤ 1200) (hk : dK (D c) = 2 ∨ dK (D c) = 13) : ∃ a : aV, a.1 < 2 ∧ W c = a.1 ∧ v_cMac_literal (nI (c + 1)) τ = cV a ∧ ((dK (D c) = 2 ∧ a = (0, ρ.1 111 (tk c)) ∧ ρ.1 113 c = nI (tk c) ∧ tk c < 1200) ∨ (dK (D c) = 13 ∧ a = (1, 0))) := by
  obtain ⟨hA, hT, hW, h37, h124, hn, _⟩ := hN
  obtain ⟨a1, a2, a3, a4, a5, a6, a7, a8, a9, a10, a11, a12, a13, a14, a15, a16, a17, a18, a19, a20, a21, a22, a23, a24⟩ := hA
  have hTw : (dK (D c) = 2 → W c = 0) ∧ (dK (D c) = 13 → W c = 1) := by
    unfold okT at hT
    rcases hT with h | h | h | h | h | h | h | h | h | h
    · exact ⟨fun _ => h.2.1, fun q => by omega⟩
    · exact ⟨fun q => by omega, fun _ => h.2.1⟩
    all_goals exact ⟨fun q => by omega, fun q => by omega⟩
  rcases hk with hk | hk
  · refine ⟨(0, ρ.1 111 (tk c)), (show 0 < 2 by omega), hTw.1 hk, ?_, Or.inl ⟨hk, rfl, a18, by omega⟩⟩
    unfold v_cMac_literal
    rw [jI_at_in (by omega) (by omega), a5, hk, if_pos (by decide), jI_at_in (by omega) (by omega), a19, jL_at_in (by omega) (by omega), hn hk]
    rfl
  · refine ⟨(1, 0), (show 1 < 2 by omega), hTw.2 hk, ?_, Or.inr ⟨hk, rfl⟩⟩
    unfold v_cMac_literal
    rw [jI_at_in (by omega) (by omega), a5, hk, if_neg (fun q => q rfl)]
    rfl
/-- the top's stage is 0: nothing has just been worked -/
theorem pd_0 {E : jEn} {G : jGh} {F : Nat} {nS pN bN lN' : Nat → Nat} {ty : Nat → Nat → Nat} {W : Nat → Nat} {D : Nat → jDs} {tk LO : Nat → Nat} {sl sp : Nat → Nat → Nat} {H : jHp} {S : jSt} {pd : Nat} {an : aV} {bt fc st lm go : Nat} {τ ρ : jx_S} (h : RUN E G F nS pN bN lN' ty W D tk LO sl sp H S pd an bt fc st lm go τ ρ) (hd : 0 < jSd S) (hsg : jSg S (jSd S - 1) = 0) : pd = 0 := by
  rcases h.2.1.2.1 hd with q | q
  · exact q.2
  · exact absurd hsg q.1.1
theorem c_wo {E : jEn} {τ ρ : jx_S} {k tk sg : Nat} {d : jDs} (hA : AN E τ ρ k tk d) (hs : sg ≤ 100) : p_cMac_workOn (nI (k + 1)) (nI sg) τ = (if sg = 100 then ((p_cMac_finish (τ.2 8 15) τ).bind fun q10 => (some (q10))) else if nI (dK d) = 2 then (p_cMac_workOn_152 (nI (k + 1)) τ) else (if nI (dK d) = 5 then ((p_cMac_workLet (nI (k + 1)) (nI sg) τ).bind fun q2 => (some (q2))) else (if nI (dK d) = 7 then ((p_cMac_workIf (nI (k + 1)) (nI sg) τ).bind fun q3 => (some (q3))) else (if nI (dK d) = 10 then ((p_cMac_workCase (nI (k + 1)) (nI sg) τ).bind fun q4 => (some (q4))) else (if nI (dK d) = 13 then (p_cMac_workOn_152 (nI (k + 1)) τ) else (if nI (dK d) = 14 then ((p_cMac_workCons (nI (k + 1)) τ).bind fun q5 => (some (q5))) else (if nI (dK d) = 15 then (some ((jx_i τ 8 14 (2 : Int32)))) else (if nI (dK d) = 28 then (if (jI_at 1201 (τ.1 35) (nI (k + 1))) ≤ 0 then ((p_cMac_workLocal (nI (k + 1)) (nI sg) τ).bind fun q6 => (some (q6))) else ((p_cMac_callHeld (nI (k + 1)) τ).bind fun q7 => (some (q7)))) else (if nI (dK d) = 29 then ((p_cMac_workCall (nI (k + 1)) (nI sg) τ).bind fun q8 => (some (q8))) else (p_cMac_workOn_247 (nI (k + 1)) (nI sg) τ)))))))))) := by
  unfold p_cMac_workOn
  have hk := hA.1
  rw [jI_at_in (by omega) (by omega), hA.2.2.2.2.1]
  by_cases z : sg = 100
  · rw [if_pos z, z, if_neg (show ¬ ¬ nI 100 = (100 : Int32) from fun q => q rfl)]
  · rw [if_neg z, if_pos (show ¬ nI sg = (100 : Int32) from fun q => z ((nI_eq (b := 100) (by omega) (by omega)).1 q))]
theorem tick_lit {E : jEn} {G : jGh} {F : Nat} {nS pN bN lN' : Nat → Nat} {ty : Nat → Nat → Nat} {W : Nat → Nat} {D : Nat → jDs} {tk LO : Nat → Nat} {sl sp : Nat → Nat → Nat} {H : jHp} {S : jSt} {pd : Nat} {an : aV} {bt fc st lm go : Nat} {τ ρ : jx_S} (h : RUN E G F nS pN bN lN' ty W D tk LO sl sp H S pd an bt fc st lm go τ ρ) (hd : 0 < jSd S) (hk : dK (D (jSk S (jSd S - 1))) = 2 ∨ dK (D (jSk S (jSd S - 1))) = 13) : ∃ τ' ρ', tk1 τ = some τ' ∧ p_r_go_0_s ρ = some (.inl ρ') ∧ NX E G F nS pN bN lN' ty W D tk LO sl sp S bt fc st lm go 1 τ' ρ' := by
  obtain ⟨e1, e2, hse, hF, hN, ⟨e3, e4, e5⟩, s1, s2, s3, k2, hsg, hk12⟩ := top_of h hd
  have hsg0 : jSg S (jSd S - 1) = 0 := by
    have h5 := hse.2.2.2.2.1
    unfold stgOK at h5
    omega
  have hpd := pd_0 h hd hsg0
  subst hpd
  obtain ⟨a, a1, a2, a3, a4⟩ := litR hN h.1.1.2.1 hk
  have hA := hN.1
  have hvt : VT F pN bN ty W H (W (jSk S (jSd S - 1))) a := by
    rw [a2]
    rcases (show a.1 = 0 ∨ a.1 = 1 by omega) with z | z
    · exact Or.inl ⟨z, z⟩
    · exact Or.inr (Or.inl ⟨z, z⟩)
  obtain ⟨ρ', f1, f2, f3⟩ := run_fin (RU1_of h.1) hd h.2.1.2.2.2.2 (by unfold keptS; rw [hsg0]; exact kept_0 _) (by omega) hvt
  have hm := mea_pop (st := st) (lm := lm) hd
  rw [hsg0] at hm
  refine ⟨_, ρ', ?_, ?_, Or.inr ⟨H, sPop S, _, a, st, f3, ?_⟩⟩
  · rw [e1, c_wo hA hsg, hsg0, if_neg (by omega)]
    unfold p_cMac_workOn_152
    rw [a3, f1, Option.bind_some]
    rcases hk with q | q <;> rw [q] <;> rfl
  · rw [r_goh s2 hd s3 k2 e3 hk12 e4 hA.2.2.2.2.2.1]
    rcases a4 with ⟨q, a5, a6, a7⟩ | ⟨q, a5⟩
    · subst a5
      rw [q, if_neg (show ¬ 28 ≤ 2 by omega), if_neg (by decide), if_pos (show nI 2 = (2 : Int32) from rfl), a6, if_neg (nI_in (show tk (jSk S (jSd S - 1)) < 1202 by omega) (by omega)), nI_clamp (by omega), show v_r_tagged (0 : Int64) (ρ.1 111 (tk (jSk S (jSd S - 1)))) ρ = rV (0, ρ.1 111 (tk (jSk S (jSd S - 1)))) from rfl, f2]
      rfl
    · subst a5
      rw [q, if_neg (show ¬ 28 ≤ 13 by omega), if_neg (by decide), if_neg (by decide), if_neg (by decide), if_neg (by decide), if_neg (by decide), if_pos (show nI 13 = (13 : Int32) from rfl), show v_r_tagged (1 : Int64) (0 : Int32) ρ = rV (1, 0) from rfl, f2]
      rfl
  · have : remS 0 = 18 := rfl
    omega
/-- the end with a number, both at once -/
theorem EN_now {E : jEn} {G : jGh} {F : Nat} {nS pN bN lN' : Nat → Nat} {ty : Nat → Nat → Nat} {W : Nat → Nat} {D : Nat → jDs} {tk LO : Nat → Nat} {sl sp : Nat → Nat → Nat} {H : jHp} {S : jSt} {an : aV} {bt fc st lm go : Nat} {τ ρ : jx_S} (h : RU0 E G F nS pN bN lN' ty W D tk LO sl sp H S 0 an bt fc st lm go τ ρ) (en : Nat) (h2 : 2 ≤ en) (h5 : en ≤ 5) : EN H go (jx_i τ 8 14 (nI en)) (jx_i ρ 106 87 (nI en)) := by
  obtain ⟨h1, ⟨⟨p1, p2, p3⟩, ⟨c1, c2, c3⟩, _⟩, _, ⟨k1, k2, ⟨k3, k3a, k3b, k3c⟩, ⟨k4, k4a⟩, ⟨dd, k5, k5a, k5b⟩, ⟨k6, k6a⟩, k7, k8, k9⟩, hH, _, h13⟩ := h
  refine ⟨⟨en, h2, h5, by simp (disch := first | assumption | decide | omega) only [nI_lit, cT_lt, cF_lt, cT_le, cF_le, cT_eq, cF_eq, nF_le, mF_eq, mG_eq, mT_lt, eq_self, nI_clamp, nI_add, Nat.add_zero, nI_sub, s_i_ne, s_i_eq, s_i_2, s_l_1, s_l_ne, s_l_eq, s_p_ne, s_p_eq, s_p_2, s_q_1, s_q_ne, s_q_eq, u_ne, u_eq, v_ne, v_eq, w_ne, w_eq, jI_at_in, jL_at_in, false_or, or_false, true_or, or_true, true_and, and_true, false_and, and_false, not_true_eq_false, not_false_eq_true, ↓reduceIte, Option.bind_some, Option.map_some], by simp (disch := first | assumption | decide | omega) only [nI_lit, cT_lt, cF_lt, cT_le, cF_le, cT_eq, cF_eq, nF_le, mF_eq, mG_eq, mT_lt, eq_self, nI_clamp, nI_add, Nat.add_zero, nI_sub, s_i_ne, s_i_eq, s_i_2, s_l_1, s_l_ne, s_l_eq, s_p_ne, s_p_eq, s_p_2, s_q_1, s_q_ne, s_q_eq, u_ne, u_eq, v_ne, v_eq, w_ne, w_eq, jI_at_in, jL_at_in, false_or, or_false, true_or, or_true, true_and, and_true, false_and, and_false, not_true_eq_false, not_false_eq_true, ↓reduceIte, Option.bind_some, Option.map_some]⟩, ⟨?_, ?_, ?_, ?_⟩, ?_, ⟨hH.2.1.1, ?_, ?_, ?_, fun i hi => ?_⟩, ⟨?_, ?_, ?_⟩, ?_, ?_, ?_⟩
  · simp (disch := first | assumption | decide | omega) only [k3, k3a, nI_lit, cT_lt, cF_lt, cT_le, cF_le, cT_eq, cF_eq, nF_le, mF_eq, mG_eq, mT_lt, eq_self, nI_clamp, nI_add, Nat.add_zero, nI_sub, s_i_ne, s_i_eq, s_i_2, s_l_1, s_l_ne, s_l_eq, s_p_ne, s_p_eq, s_p_2, s_q_1, s_q_ne, s_q_eq, u_ne, u_eq, v_ne, v_eq, w_ne, w_eq, jI_at_in, jL_at_in, false_or, or_false, true_or, or_true, true_and, and_true, false_and, and_false, not_true_eq_false, not_false_eq_true, ↓reduceIte, Option.bind_some, Option.map_some]
  · simp (disch := first | assumption | decide | omega) only [k5a, k5b, nI_lit, cT_lt, cF_lt, cT_le, cF_le, cT_eq, cF_eq, nF_le, mF_eq, mG_eq, mT_lt, eq_self, nI_clamp, nI_add, Nat.add_zero, nI_sub, s_i_ne, s_i_eq, s_i_2, s_l_1, s_l_ne, s_l_eq, s_p_ne, s_p_eq, s_p_2, s_q_1, s_q_ne, s_q_eq, u_ne, u_eq, v_ne, v_eq, w_ne, w_eq, jI_at_in, jL_at_in, false_or, or_false, true_or, or_true, true_and, and_true, false_and, and_false, not_true_eq_false, not_false_eq_true, ↓reduceIte, Option.bind_some, Option.map_some]
  · simp (disch := first | assumption | decide | omega) only [nI_lit, cT_lt, cF_lt, cT_le, cF_le, cT_eq, cF_eq, nF_le, mF_eq, mG_eq, mT_lt, eq_self, nI_clamp, nI_add, Nat.add_zero, nI_sub, s_i_ne, s_i_eq, s_i_2, s_l_1, s_l_ne, s_l_eq, s_p_ne, s_p_eq, s_p_2, s_q_1, s_q_ne, s_q_eq, u_ne, u_eq, v_ne, v_eq, w_ne, w_eq, jI_at_in, jL_at_in, false_or, or_false, true_or, or_true, true_and, and_true, false_and, and_false, not_true_eq_false, not_false_eq_true, ↓reduceIte, Option.bind_some, Option.map_some]; exact k6
  · simp (disch := first | assumption | decide | omega) only [nI_lit, cT_lt, cF_lt, cT_le, cF_le, cT_eq, cF_eq, nF_le, mF_eq, mG_eq, mT_lt, eq_self, nI_clamp, nI_add, Nat.add_zero, nI_sub, s_i_ne, s_i_eq, s_i_2, s_l_1, s_l_ne, s_l_eq, s_p_ne, s_p_eq, s_p_2, s_q_1, s_q_ne, s_q_eq, u_ne, u_eq, v_ne, v_eq, w_ne, w_eq, jI_at_in, jL_at_in, false_or, or_false, true_or, or_true, true_and, and_true, false_and, and_false, not_true_eq_false, not_false_eq_true, ↓reduceIte, Option.bind_some, Option.map_some]; exact k6a
  · simp (disch := first | assumption | decide | omega) only [c1, c2, nI_lit, cT_lt, cF_lt, cT_le, cF_le, cT_eq, cF_eq, nF_le, mF_eq, mG_eq, mT_lt, eq_self, nI_clamp, nI_add, Nat.add_zero, nI_sub, s_i_ne, s_i_eq, s_i_2, s_l_1, s_l_ne, s_l_eq, s_p_ne, s_p_eq, s_p_2, s_q_1, s_q_ne, s_q_eq, u_ne, u_eq, v_ne, v_eq, w_ne, w_eq, jI_at_in, jL_at_in, false_or, or_false, true_or, or_true, true_and, and_true, false_and, and_false, not_true_eq_false, not_false_eq_true, ↓reduceIte, Option.bind_some, Option.map_some]
  · simp (disch := first | assumption | decide | omega) only [p1, nI_lit, cT_lt, cF_lt, cT_le, cF_le, cT_eq, cF_eq, nF_le, mF_eq, mG_eq, mT_lt, eq_self, nI_clamp, nI_add, Nat.add_zero, nI_sub, s_i_ne, s_i_eq, s_i_2, s_l_1, s_l_ne, s_l_eq, s_p_ne, s_p_eq, s_p_2, s_q_1, s_q_ne, s_q_eq, u_ne, u_eq, v_ne, v_eq, w_ne, w_eq, jI_at_in, jL_at_in, false_or, or_false, true_or, or_true, true_and, and_true, false_and, and_false, not_true_eq_false, not_false_eq_true, ↓reduceIte, Option.bind_some, Option.map_some]
  · simp (disch := first | assumption | decide | omega) only [p2, nI_lit, cT_lt, cF_lt, cT_le, cF_le, cT_eq, cF_eq, nF_le, mF_eq, mG_eq, mT_lt, eq_self, nI_clamp, nI_add, Nat.add_zero, nI_sub, s_i_ne, s_i_eq, s_i_2, s_l_1, s_l_ne, s_l_eq, s_p_ne, s_p_eq, s_p_2, s_q_1, s_q_ne, s_q_eq, u_ne, u_eq, v_ne, v_eq, w_ne, w_eq, jI_at_in, jL_at_in, false_or, or_false, true_or, or_true, true_and, and_true, false_and, and_false, not_true_eq_false, not_false_eq_true, ↓reduceIte, Option.bind_some, Option.map_some]
  · simp (disch := first | assumption | decide | omega) only [h13, nI_lit, cT_lt, cF_lt, cT_le, cF_le, cT_eq, cF_eq, nF_le, mF_eq, mG_eq, mT_lt, eq_self, nI_clamp, nI_add, Nat.add_zero, nI_sub, s_i_ne, s_i_eq, s_i_2, s_l_1, s_l_ne, s_l_eq, s_p_ne, s_p_eq, s_p_2, s_q_1, s_q_ne, s_q_eq, u_ne, u_eq, v_ne, v_eq, w_ne, w_eq, jI_at_in, jL_at_in, false_or, or_false, true_or, or_true, true_and, and_true, false_and, and_false, not_true_eq_false, not_false_eq_true, ↓reduceIte, Option.bind_some, Option.map_some]
  · have := (p3 i hi).2.2.1.2
    rw [if_neg (by omega)] at this
    exact ⟨by simp (disch := first | assumption | decide | omega) only [nI_lit, cT_lt, cF_lt, cT_le, cF_le, cT_eq, cF_eq, nF_le, mF_eq, mG_eq, mT_lt, eq_self, nI_clamp, nI_add, Nat.add_zero, nI_sub, s_i_ne, s_i_eq, s_i_2, s_l_1, s_l_ne, s_l_eq, s_p_ne, s_p_eq, s_p_2, s_q_1, s_q_ne, s_q_eq, u_ne, u_eq, v_ne, v_eq, w_ne, w_eq, jI_at_in, jL_at_in, false_or, or_false, true_or, or_true, true_and, and_true, false_and, and_false, not_true_eq_false, not_false_eq_true, ↓reduceIte, Option.bind_some, Option.map_some]; exact this, (hH.2.1.2 i hi).2.2.1⟩
  · simp (disch := first | assumption | decide | omega) only [k8, nI_lit, cT_lt, cF_lt, cT_le, cF_le, cT_eq, cF_eq, nF_le, mF_eq, mG_eq, mT_lt, eq_self, nI_clamp, nI_add, Nat.add_zero, nI_sub, s_i_ne, s_i_eq, s_i_2, s_l_1, s_l_ne, s_l_eq, s_p_ne, s_p_eq, s_p_2, s_q_1, s_q_ne, s_q_eq, u_ne, u_eq, v_ne, v_eq, w_ne, w_eq, jI_at_in, jL_at_in, false_or, or_false, true_or, or_true, true_and, and_true, false_and, and_false, not_true_eq_false, not_false_eq_true, ↓reduceIte, Option.bind_some, Option.map_some]
  · simp (disch := first | assumption | decide | omega) only [k8, nI_lit, cT_lt, cF_lt, cT_le, cF_le, cT_eq, cF_eq, nF_le, mF_eq, mG_eq, mT_lt, eq_self, nI_clamp, nI_add, Nat.add_zero, nI_sub, s_i_ne, s_i_eq, s_i_2, s_l_1, s_l_ne, s_l_eq, s_p_ne, s_p_eq, s_p_2, s_q_1, s_q_ne, s_q_eq, u_ne, u_eq, v_ne, v_eq, w_ne, w_eq, jI_at_in, jL_at_in, false_or, or_false, true_or, or_true, true_and, and_true, false_and, and_false, not_true_eq_false, not_false_eq_true, ↓reduceIte, Option.bind_some, Option.map_some]
  · simp (disch := first | assumption | decide | omega) only [k8, nI_lit, cT_lt, cF_lt, cT_le, cF_le, cT_eq, cF_eq, nF_le, mF_eq, mG_eq, mT_lt, eq_self, nI_clamp, nI_add, Nat.add_zero, nI_sub, s_i_ne, s_i_eq, s_i_2, s_l_1, s_l_ne, s_l_eq, s_p_ne, s_p_eq, s_p_2, s_q_1, s_q_ne, s_q_eq, u_ne, u_eq, v_ne, v_eq, w_ne, w_eq, jI_at_in, jL_at_in, false_or, or_false, true_or, or_true, true_and, and_true, false_and, and_false, not_true_eq_false, not_false_eq_true, ↓reduceIte, Option.bind_some, Option.map_some]
  · simp (disch := first | assumption | decide | omega) only [k9, nI_lit, cT_lt, cF_lt, cT_le, cF_le, cT_eq, cF_eq, nF_le, mF_eq, mG_eq, mT_lt, eq_self, nI_clamp, nI_add, Nat.add_zero, nI_sub, s_i_ne, s_i_eq, s_i_2, s_l_1, s_l_ne, s_l_eq, s_p_ne, s_p_eq, s_p_2, s_q_1, s_q_ne, s_q_eq, u_ne, u_eq, v_ne, v_eq, w_ne, w_eq, jI_at_in, jL_at_in, false_or, or_false, true_or, or_true, true_and, and_true, false_and, and_false, not_true_eq_false, not_false_eq_true, ↓reduceIte, Option.bind_some, Option.map_some]
  · simp (disch := first | assumption | decide | omega) only [k9, nI_lit, cT_lt, cF_lt, cT_le, cF_le, cT_eq, cF_eq, nF_le, mF_eq, mG_eq, mT_lt, eq_self, nI_clamp, nI_add, Nat.add_zero, nI_sub, s_i_ne, s_i_eq, s_i_2, s_l_1, s_l_ne, s_l_eq, s_p_ne, s_p_eq, s_p_2, s_q_1, s_q_ne, s_q_eq, u_ne, u_eq, v_ne, v_eq, w_ne, w_eq, jI_at_in, jL_at_in, false_or, or_false, true_or, or_true, true_and, and_true, false_and, and_false, not_true_eq_false, not_false_eq_true, ↓reduceIte, Option.bind_some, Option.map_some]
  · simp (disch := first | assumption | decide | omega) only [k9, nI_lit, cT_lt, cF_lt, cT_le, cF_le, cT_eq, cF_eq, nF_le, mF_eq, mG_eq, mT_lt, eq_self, nI_clamp, nI_add, Nat.add_zero, nI_sub, s_i_ne, s_i_eq, s_i_2, s_l_1, s_l_ne, s_l_eq, s_p_ne, s_p_eq, s_p_2, s_q_1, s_q_ne, s_q_eq, u_ne, u_eq, v_ne, v_eq, w_ne, w_eq, jI_at_in, jL_at_in, false_or, or_false, true_or, or_true, true_and, and_true, false_and, and_false, not_true_eq_false, not_false_eq_true, ↓reduceIte, Option.bind_some, Option.map_some]
theorem tick_err {E : jEn} {G : jGh} {F : Nat} {nS pN bN lN' : Nat → Nat} {ty : Nat → Nat → Nat} {W : Nat → Nat} {D : Nat → jDs} {tk LO : Nat → Nat} {sl sp : Nat → Nat → Nat} {H : jHp} {S : jSt} {pd : Nat} {an : aV} {bt fc st lm go : Nat} {τ ρ : jx_S} (h : RUN E G F nS pN bN lN' ty W D tk LO sl sp H S pd an bt fc st lm go τ ρ) (hd : 0 < jSd S) (hk : dK (D (jSk S (jSd S - 1))) = 15) : ∃ τ' ρ', tk1 τ = some τ' ∧ p_r_go_0_s ρ = some (.inl ρ') ∧ NX E G F nS pN bN lN' ty W D tk LO sl sp S bt fc st lm go 1 τ' ρ' := by
  obtain ⟨e1, e2, hse, hF, hN, ⟨e3, e4, e5⟩, s1, s2, s3, k2, hsg, hk12⟩ := top_of h hd
  have hsg0 : jSg S (jSd S - 1) = 0 := by
    have h5 := hse.2.2.2.2.1
    unfold stgOK at h5
    omega
  have hpd := pd_0 h hd hsg0
  subst hpd
  have hA := hN.1
  refine ⟨_, _, ?_, ?_, Or.inl ⟨H, EN_now h.1 2 (by omega) (by omega)⟩⟩
  · rw [e1, c_wo hA hsg, hsg0, if_neg (by omega), hk]; rfl
  · rw [r_goh s2 hd s3 k2 e3 hk12 e4 hA.2.2.2.2.2.1, hk]; rfl
/-- the last stage: the part's answer is the whole's -/
theorem tick_last {E : jEn} {G : jGh} {F : Nat} {nS pN bN lN' : Nat → Nat} {ty : Nat → Nat → Nat} {W : Nat → Nat} {D : Nat → jDs} {tk LO : Nat → Nat} {sl sp : Nat → Nat → Nat} {H : jHp} {S : jSt} {pd : Nat} {an : aV} {bt fc st lm go : Nat} {τ ρ : jx_S} (h : RUN E G F nS pN bN lN' ty W D tk LO sl sp H S pd an bt fc st lm go τ ρ) (hd : 0 < jSd S) (hsg : jSg S (jSd S - 1) = 100) : ∃ τ' ρ', tk1 τ = some τ' ∧ p_r_go_0_s ρ = some (.inl ρ') ∧ NX E G F nS pN bN lN' ty W D tk LO sl sp S bt fc st lm go 1 τ' ρ' := by
  obtain ⟨e1, e2, hse, hF, hN, ⟨e3, e4, e5⟩, s1, s2, s3, k2, hsg1, hk12⟩ := top_of h hd
  have hA := hN.1
  have h5 := hse.2.2.2.2.1
  rw [hsg] at h5
  have hkind : (dK (D (jSk S (jSd S - 1))) = 28 ∧ 0 < dM (D (jSk S (jSd S - 1)))) ∨ dK (D (jSk S (jSd S - 1))) = 29 ∨ dK (D (jSk S (jSd S - 1))) = 5 ∨ dK (D (jSk S (jSd S - 1))) = 7 ∨ dK (D (jSk S (jSd S - 1))) = 10 := by
    unfold stgOK at h5; omega
  obtain ⟨u1, u2, u3⟩ : SW W D H S (jSd S - 1) pd ∧ an.1 < 3 ∧ VT F pN bN ty W H (xtyp W D (jSk S (jSd S - 1)) (jSg S (jSd S - 1))) an := by
    rcases h.2.1.2.1 hd with q | q
    · omega
    · exact q
  have hpd : pd = 0 := u1.2.2 (fun q => by omega)
  subst hpd
  have hxt : xtyp W D (jSk S (jSd S - 1)) (jSg S (jSd S - 1)) = W (jSk S (jSd S - 1)) := if_pos (Or.inl hsg)
  rw [hxt] at u3
  obtain ⟨a1, a2⟩ := h.2.2 (Or.inr (by omega))
  obtain ⟨ρ', f1, f2, f3⟩ := run_fin (RU1_of h.1) hd h.2.1.2.2.2.2 (by unfold keptS; rw [hsg]; exact kept_e (by omega)) u2 u3
  have hm := mea_pop (st := st) (lm := lm) hd
  rw [hsg] at hm
  have hni : ¬ (nI (jSd S - 1) < 0 ∨ 251 ≤ jSd S - 1) := fun z => by
    rcases z with z | z
    · exact nI_pos (by omega) z
    · omega
  have hni2 : ¬ (nI (jSk S (jSd S - 1)) < 0 ∨ 3000 ≤ jSk S (jSd S - 1)) := fun z => by
    rcases z with z | z
    · exact nI_pos (by omega) z
    · omega
  refine ⟨_, ρ', ?_, ?_, Or.inr ⟨H, sPop S, _, an, st, f3, ?_⟩⟩
  · rw [e1, c_wo hA hsg1, if_pos hsg, a1, f1]; rfl
  · rw [r_goh s2 hd s3 k2 e3 hk12 e4 hA.2.2.2.2.2.1]
    rw [hsg] at e5
    have hname : 28 ≤ dK (D (jSk S (jSd S - 1))) → (0 < dM (D (jSk S (jSd S - 1))) ∨ dK (D (jSk S (jSd S - 1))) = 29) → p_r_workName (nI (jSd S - 1)) (nI (jSk S (jSd S - 1))) (nI (jFb H (jSf S (jSd S - 1)))) ρ = some ρ' := fun k28 km => by
      have er : rstg (dK (D (jSk S (jSd S - 1)))) 100 = 1000 := by unfold rstg; rw [if_pos rfl, if_pos k28]
      rw [er] at e5
      have h37 : p_r_workName_37 (nI (jSd S - 1)) (nI (jSk S (jSd S - 1))) (nI (jFb H (jSf S (jSd S - 1)))) ρ = some ρ' := by
        unfold p_r_workName_37
        rw [nI_clamp (show jSk S (jSd S - 1) < 2 ^ 31 by omega), nI_clamp (show jSd S - 1 < 2 ^ 31 by omega), if_neg hni2, if_neg hni, e5, if_neg (show ¬ ¬ nI 1000 = (1000 : Int32) from fun q => q rfl), a2, f2]; rfl
      obtain ⟨b1, b2, _⟩ := hA.2.2.2.2.2.2.2.2.2.2.2.2.1 k28
      unfold p_r_workName
      rw [nI_clamp (show jSk S (jSd S - 1) < 2 ^ 31 by omega), if_neg hni2, if_neg hni2, b1, h37]
      by_cases y : dM (D (jSk S (jSd S - 1))) = 0
      · have k29 : dK (D (jSk S (jSd S - 1))) = 29 := by omega
        rw [y, if_neg (fun q => q rfl), (hA.2.2.2.2.2.2.2.2.2.2.2.2.2.2.1 k29).1, if_pos (by decide)]
      · rw [if_pos (nI_ne0 (by omega) (by have := hA.2.1; omega))]
    rcases hkind with ⟨q, q2⟩ | q | q | q | q
    · rw [if_pos (show 28 ≤ dK (D (jSk S (jSd S - 1))) by omega), if_pos (show nI 1 = (1 : Int32) from rfl), hname (by omega) (Or.inl q2)]; rfl
    · rw [if_pos (show 28 ≤ dK (D (jSk S (jSd S - 1))) by omega), if_pos (show nI 1 = (1 : Int32) from rfl), hname (by omega) (Or.inr q)]; rfl
    · have er : rstg (dK (D (jSk S (jSd S - 1)))) 100 = 2 := by unfold rstg; rw [if_pos rfl, if_neg (by omega)]
      rw [er] at e5
      rw [q, if_neg (show ¬ 28 ≤ 5 by omega), if_neg (by decide), if_neg (by decide), if_pos (show nI 5 = (5 : Int32) from rfl)]
      unfold p_r_workLet p_r_workLet_57
      rw [nI_clamp (show jSd S - 1 < 2 ^ 31 by omega), if_neg hni, e5, if_pos (by decide), if_neg hni, if_pos (by decide), a2, f2]; rfl
    · have er : rstg (dK (D (jSk S (jSd S - 1)))) 100 = 2 := by unfold rstg; rw [if_pos rfl, if_neg (by omega)]
      rw [er] at e5
      rw [q, if_neg (show ¬ 28 ≤ 7 by omega), if_neg (by decide), if_neg (by decide), if_neg (by decide), if_pos (show nI 7 = (7 : Int32) from rfl)]
      unfold p_r_go_168 p_r_workChoice
      rw [nI_clamp (show jSd S - 1 < 2 ^ 31 by omega), if_neg hni, e5, if_pos (by decide), if_neg hni, if_pos (by decide), a2, f2]; rfl
    · have er : rstg (dK (D (jSk S (jSd S - 1)))) 100 = 2 := by unfold rstg; rw [if_pos rfl, if_neg (by omega)]
      rw [er] at e5
      rw [q, if_neg (show ¬ 28 ≤ 10 by omega), if_neg (by decide), if_neg (by decide), if_neg (by decide), if_neg (by decide), if_pos (show nI 10 = (10 : Int32) from rfl)]
      unfold p_r_go_168 p_r_workChoice
      rw [nI_clamp (show jSd S - 1 < 2 ^ 31 by omega), if_neg hni, e5, if_pos (by decide), if_neg hni, if_pos (by decide), a2, f2]; rfl
  · have : remS 100 = 1 := rfl
    omega
