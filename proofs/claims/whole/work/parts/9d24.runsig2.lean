/-! RUNS, 24: ticks: signs, the second part and the end. -/
theorem tick_sg1 {E : jEn} {G : jGh} {F : Nat} {nS pN bN lN' : Nat → Nat} {ty : Nat → Nat → Nat} {W : Nat → Nat} {D : Nat → jDs} {tk LO : Nat → Nat} {sl sp : Nat → Nat → Nat} {H : jHp} {S : jSt} {pd : Nat} {an : aV} {bt fc st lm go : Nat} {τ ρ : jx_S} (h : RUN E G F nS pN bN lN' ty W D tk LO sl sp H S pd an bt fc st lm go τ ρ) (hd : 0 < jSd S) (hk : dK (D (jSk S (jSd S - 1))) = 19 ∨ (23 ≤ dK (D (jSk S (jSd S - 1))) ∧ dK (D (jSk S (jSd S - 1))) ≤ 27)) (hsg1 : jSg S (jSd S - 1) = 1) : ∃ τ' ρ', tk1 τ = some τ' ∧ p_r_go_0_s ρ = some (.inl ρ') ∧ NX E G F nS pN bN lN' ty W D tk LO sl sp S bt fc st lm go 1 τ' ρ' := by
  obtain ⟨e1, e2, hse, hF, hN, ⟨e3, e4, e5⟩, s1, s2, s3, k2, hsg, hk12⟩ := top_of h hd
  have hA := hN.1
  obtain ⟨u1, u2, u3, u4⟩ := sg_ty hN.2.1 hk
  obtain ⟨w1, w2, w3⟩ : SW W D H S (jSd S - 1) pd ∧ an.1 < 3 ∧ VT F pN bN ty W H (xtyp W D (jSk S (jSd S - 1)) (jSg S (jSd S - 1))) an := by
    rcases h.2.1.2.1 hd with q | q
    · omega
    · exact q
  have hpd : pd = 0 := w1.2.2 (fun q => by omega)
  subst hpd
  obtain ⟨a1, a2⟩ := h.2.2 (Or.inr (by omega))
  have hR := RU0_wv (v := an) h.1 hd (by omega) (by omega)
  have hsw : jSw (sWv S an) (jSd (sWv S an) - 1) 0 = an := if_pos ⟨rfl, rfl⟩
  obtain ⟨τ', ρ', r1, r2, r3⟩ := sg_beg (i := 1) hR hd h.2.1.2.2.2.2 hk (by omega) hsg1 (fun _ => by
    rw [hsw]
    refine ⟨?_, ?_⟩
    · show (jL_put 2000 τ 81 (nI (8 * (jSd S - 1))) (cV an)).2 81 (8 * (jSd S - 1)) = _
      rw [s_q_eq, jL_up_in (by omega) (by omega), v_eq rfl]
    · show (jx_l ρ 165 (jSd S - 1) (rV an)).2 165 (jSd S - 1) = _
      rw [s_l_eq, v_eq rfl])
  have hni : ¬ (nI (jSd S - 1) < 0 ∨ 251 ≤ jSd S - 1) := fun z => by
    rcases z with z | z
    · exact nI_pos (by omega) z
    · omega
  have hni2 : ¬ (nI (jSk S (jSd S - 1)) < 0 ∨ 3000 ≤ jSk S (jSd S - 1)) := fun z => by
    rcases z with z | z
    · exact nI_pos (by omega) z
    · omega
  have e8 : (τ.1 8 11 - (1 : Int32)) * (8 : Int32) = nI (8 * (jSd S - 1)) := by
    rw [s1, show nI (jSd S) - (1 : Int32) = nI (jSd S - 1) from nI_sub (b := 1) (by omega), show (8 : Int32) = nI 8 from rfl, nI_mul, Nat.mul_comm]
  refine ⟨τ', ρ', ?_, ?_, r3⟩
  · rw [e1, hsg1, c_sgn hA (by omega) hk]
    unfold p_cMac_workSign
    have hA' : AN E (jL_put 2000 τ 81 (nI (8 * (jSd S - 1))) (cV an)) ρ (jSk S (jSd S - 1)) (tk (jSk S (jSd S - 1))) (D (jSk S (jSd S - 1))) := hA
    rw [if_pos (show ¬ nI 1 = 0 by decide), if_neg (show ¬ ¬ nI 1 = (1 : Int32) from fun z => z rfl), e8, a1, show p_cTre_part (nI (jSk S (jSd S - 1) + 1)) (1 : Int32) (jL_put 2000 τ 81 (nI (8 * (jSd S - 1))) (cV an)) = _ from c_kid (i := 1) hA' (by omega), Option.bind_some]
    show ((p_cMac_beginPart (nI (dC (D (jSk S (jSd S - 1))) 1 + 1)) (nI (1 + 1)) _).bind _) = _
    have r1' : p_cMac_beginPart (nI (dC (D (jSk S (jSd S - 1))) 1 + 1)) (nI (1 + 1)) (jL_put 2000 τ 81 (nI (8 * (jSd S - 1))) (cV an)) = some τ' := r1
    rw [r1']; rfl
  · have er : rstg (dK (D (jSk S (jSd S - 1)))) 1 = 1 := by unfold rstg; rw [if_neg (by omega), if_neg (by omega)]
    rw [hsg1, er] at e5
    have h112 := hA.2.2.2.2.2.1
    rw [if_neg (show ¬ 28 ≤ dK (D (jSk S (jSd S - 1))) by omega)] at h112
    rw [r_sgn s2 hd s3 k2 e3 hk12 e4 h112 hk]
    unfold p_r_go_197 p_r_workBinary
    have r2' : p_r_begin (nI (dC (D (jSk S (jSd S - 1))) 1)) (nI (jFb H (jSf S (jSd S - 1)))) (-1) (jx_i (jx_l ρ 165 (jSd S - 1) (rV an)) 163 (jSd S - 1) (2 : Int32)) = some ρ' := r2
    rw [nI_clamp (show jSd S - 1 < 2 ^ 31 by omega), if_neg hni, e5, if_pos (show ¬ nI 1 = 0 by decide), if_neg hni, if_neg (show ¬ ¬ nI 1 = (1 : Int32) from fun z => z rfl), if_neg hni, if_neg hni, nI_clamp (show jSk S (jSd S - 1) < 2 ^ 31 by omega), if_neg hni2, hA.2.2.2.2.2.2.2.2.2.2.1 (by omega) (by omega), a2, r2']; rfl
/-- two numbers joined -/
def jnV (K : Nat) (x y : Int32) : Int32 := if K = 19 then (if ¬ x = y then 0 else 1) else if K = 23 then x + y else if K = 24 then x - y else if K = 25 then x * y else if K = 26 then x / y else if y ≤ x then 0 else 1
theorem c_join {K : Nat} {x y : Int32} {σ : jx_S} (hk : K = 19 ∨ (23 ≤ K ∧ K ≤ 27)) (h : K = 26 → y ≠ 0) : p_cMac_join (nI K) x y σ = some (jnV K x y, σ) := by
  unfold p_cMac_join jnV
  rcases (show K = 19 ∨ K = 23 ∨ K = 24 ∨ K = 25 ∨ K = 26 ∨ K = 27 by omega) with z | z | z | z | z | z
  · subst z
    rw [if_pos (show nI 19 = (19 : Int32) from rfl), if_pos rfl]
    split <;> rfl
  · subst z; rfl
  · subst z; rfl
  · subst z; rfl
  · subst z
    have hy := h rfl
    rw [if_neg (by decide), if_neg (by decide), if_neg (by decide), if_neg (by decide), if_pos (show nI 26 = (26 : Int32) from rfl), if_pos hy, if_neg hy, if_neg (by omega), if_neg (by omega), if_neg (by omega), if_neg (by omega), if_pos rfl]
  · subst z
    rw [if_neg (by decide), if_neg (by decide), if_neg (by decide), if_neg (by decide), if_neg (by decide), if_neg (by omega), if_neg (by omega), if_neg (by omega), if_neg (by omega), if_neg (by omega)]
    unfold p_cMac_join_83
    split <;> rfl
theorem r_join {K k : Nat} {x y : Int32} {ρ : jx_S} (hk : K = 19 ∨ (23 ≤ K ∧ K ≤ 27)) (h : K = 26 → y ≠ 0) (hk2 : k < 3000) (h112 : ρ.1 112 k = nI K) : p_r_workBinary_111 (nI k) x y ρ = p_r_workBinary_225 (jnV K x y) ρ := by
  have hni2 : ¬ (nI k < 0 ∨ 3000 ≤ k) := fun z => by
    rcases z with z | z
    · exact nI_pos (by omega) z
    · omega
  unfold p_r_workBinary_111 jnV
  rw [nI_clamp (show k < 2 ^ 31 by omega)]
  simp only [if_neg hni2, h112]
  rcases (show K = 19 ∨ K = 23 ∨ K = 24 ∨ K = 25 ∨ K = 26 ∨ K = 27 by omega) with z | z | z | z | z | z
  · subst z
    rw [if_pos (by decide), if_pos (by decide), if_pos (by decide), if_pos (by decide), if_neg (show ¬ ¬ nI 19 = (19 : Int32) from fun z => z rfl), if_pos rfl]
    split <;> rfl
  · subst z
    rw [if_neg (show ¬ ¬ nI 23 = (23 : Int32) from fun z => z rfl), if_neg (by omega), if_pos rfl]
  · subst z
    rw [if_pos (by decide), if_neg (show ¬ ¬ nI 24 = (24 : Int32) from fun z => z rfl), if_neg (by omega), if_neg (by omega), if_pos rfl]
  · subst z
    rw [if_pos (by decide), if_pos (by decide), if_neg (show ¬ ¬ nI 25 = (25 : Int32) from fun z => z rfl), if_neg (by omega), if_neg (by omega), if_neg (by omega), if_pos rfl]
  · subst z
    rw [if_pos (by decide), if_pos (by decide), if_pos (by decide), if_neg (show ¬ ¬ nI 26 = (26 : Int32) from fun z => z rfl), if_neg (h rfl), if_neg (by omega), if_neg (by omega), if_neg (by omega), if_neg (by omega), if_pos rfl]
  · subst z
    rw [if_pos (by decide), if_pos (by decide), if_pos (by decide), if_pos (by decide), if_pos (by decide), if_neg (show ¬ 27 = 19 by omega), if_neg (show ¬ 27 = 23 by omega), if_neg (show ¬ 27 = 24 by omega), if_neg (show ¬ 27 = 25 by omega), if_neg (show ¬ 27 = 26 by omega)]
    split <;> rfl
theorem tick_sg2 {E : jEn} {G : jGh} {F : Nat} {nS pN bN lN' : Nat → Nat} {ty : Nat → Nat → Nat} {W : Nat → Nat} {D : Nat → jDs} {tk LO : Nat → Nat} {sl sp : Nat → Nat → Nat} {H : jHp} {S : jSt} {pd : Nat} {an : aV} {bt fc st lm go : Nat} {τ ρ : jx_S} (h : RUN E G F nS pN bN lN' ty W D tk LO sl sp H S pd an bt fc st lm go τ ρ) (hd : 0 < jSd S) (hk : dK (D (jSk S (jSd S - 1))) = 19 ∨ (23 ≤ dK (D (jSk S (jSd S - 1))) ∧ dK (D (jSk S (jSd S - 1))) ≤ 27)) (hsg2 : jSg S (jSd S - 1) = 2) : ∃ τ' ρ', tk1 τ = some τ' ∧ p_r_go_0_s ρ = some (.inl ρ') ∧ NX E G F nS pN bN lN' ty W D tk LO sl sp S bt fc st lm go 1 τ' ρ' := by
  obtain ⟨e1, e2, hse, hF, hN, ⟨e3, e4, e5⟩, s1, s2, s3, k2, hsg, hk12⟩ := top_of h hd
  have hA := hN.1
  obtain ⟨u1, u2, u3, u4⟩ := sg_ty hN.2.1 hk
  obtain ⟨w1, w2, w3⟩ : SW W D H S (jSd S - 1) pd ∧ an.1 < 3 ∧ VT F pN bN ty W H (xtyp W D (jSk S (jSd S - 1)) (jSg S (jSd S - 1))) an := by
    rcases h.2.1.2.1 hd with q | q
    · omega
    · exact q
  have hpd : pd = 0 := w1.2.2 (fun q => by omega)
  subst hpd
  obtain ⟨a1, a2⟩ := h.2.2 (Or.inr (by omega))
  obtain ⟨x1, x2⟩ := (h.1.2.2.1.2.2 (jSd S - 1) (by omega)).2.2.2.2.2 (by omega) hsg2
  generalize hv : jSw S (jSd S - 1) 0 = v at x1 x2
  have hni : ¬ (nI (jSd S - 1) < 0 ∨ 251 ≤ jSd S - 1) := fun z => by
    rcases z with z | z
    · exact nI_pos (by omega) z
    · omega
  have hni2 : ¬ (nI (jSk S (jSd S - 1)) < 0 ∨ 3000 ≤ jSk S (jSd S - 1)) := fun z => by
    rcases z with z | z
    · exact nI_pos (by omega) z
    · omega
  have e8 : (τ.1 8 11 - (1 : Int32)) * (8 : Int32) = nI (8 * (jSd S - 1)) := by
    rw [s1, show nI (jSd S) - (1 : Int32) = nI (jSd S - 1) from nI_sub (b := 1) (by omega), show (8 : Int32) = nI 8 from rfl, nI_mul, Nat.mul_comm]
  have er : rstg (dK (D (jSk S (jSd S - 1)))) 2 = 2 := by unfold rstg; rw [if_neg (by omega), if_neg (by omega)]
  rw [hsg2, er] at e5
  have h112 := hA.2.2.2.2.2.1
  rw [if_neg (show ¬ 28 ≤ dK (D (jSk S (jSd S - 1))) by omega)] at h112
  have hc : tk1 τ = p_cMac_compute (nI (dK (D (jSk S (jSd S - 1))))) v.2 an.2 τ := by
    rw [e1, hsg2, c_sgn hA (by omega) hk]
    unfold p_cMac_workSign
    rw [if_pos (show ¬ nI 2 = 0 by decide), if_pos (show ¬ nI 2 = (1 : Int32) by decide), e8, a1, c_num, jL_at_in (by omega) (by omega), x1, c_num, jI_at_in (by omega) (by omega), hA.2.2.2.2.1]
    cases p_cMac_compute (nI (dK (D (jSk S (jSd S - 1))))) v.2 an.2 τ <;> rfl
  by_cases z : dK (D (jSk S (jSd S - 1))) = 26 ∧ an.2 = 0
  · refine ⟨_, _, ?_, ?_, Or.inl ⟨H, EN_now h.1 2 (by omega) (by omega)⟩⟩
    · rw [hc, z.1, z.2]; rfl
    · rw [r_sgn s2 hd s3 k2 e3 hk12 e4 h112 hk]
      rw [z.1] at h112
      unfold p_r_go_197 p_r_workBinary
      rw [nI_clamp (show jSd S - 1 < 2 ^ 31 by omega), if_neg hni, e5, if_pos (show ¬ nI 2 = 0 by decide), if_neg hni, if_pos (show ¬ nI 2 = (1 : Int32) by decide), if_neg hni, nI_clamp (show jSk S (jSd S - 1) < 2 ^ 31 by omega), if_neg hni2, h112, if_neg (show ¬ ¬ nI 26 = (26 : Int32) from fun z => z rfl), a2, r_num, z.2, if_neg (fun z => z rfl)]
      rfl
  · have z' : dK (D (jSk S (jSd S - 1))) = 26 → an.2 ≠ 0 := fun q1 q2 => z ⟨q1, q2⟩
    obtain ⟨ρ', f1, f2, f3⟩ := run_fin (v := (0, jnV (dK (D (jSk S (jSd S - 1)))) v.2 an.2)) (RU1_of h.1) hd h.2.1.2.2.2.2 (by unfold keptS; exact kept_n (by omega)) (show 0 < 3 by omega) (Or.inl ⟨rfl, u2⟩)
    have hm := mea_pop (st := st) (lm := lm) hd
    rw [hsg2] at hm
    refine ⟨_, ρ', ?_, ?_, Or.inr ⟨H, sPop S, _, _, st, f3, ?_⟩⟩
    · have h16 : p_cMac_compute_16 (nI (dK (D (jSk S (jSd S - 1))))) v.2 an.2 τ = some (cFin τ (jSd S) (0, jnV (dK (D (jSk S (jSd S - 1)))) v.2 an.2)) := by
        unfold p_cMac_compute_16
        rw [c_join hk z', Option.bind_some]
        show ((p_cMac_finish (cV (0, jnV (dK (D (jSk S (jSd S - 1)))) v.2 an.2)) τ).bind _) = _
        rw [f1]; rfl
      rw [hc]
      unfold p_cMac_compute
      by_cases y : dK (D (jSk S (jSd S - 1))) = 26
      · have : nI (dK (D (jSk S (jSd S - 1)))) = (26 : Int32) := by rw [y]; rfl
        rw [if_neg (fun q => q this), if_pos (z' y), h16]
      · rw [if_pos (show ¬ nI (dK (D (jSk S (jSd S - 1)))) = (26 : Int32) from fun q => y ((nI_eq (b := 26) (by omega) (by omega)).1 q)), h16]
    · have h111 : p_r_workBinary_111 (nI (jSk S (jSd S - 1))) v.2 an.2 ρ = some ρ' := by
        rw [r_join hk z' (by omega) h112]
        unfold p_r_workBinary_225
        show ((p_r_finish (rV (0, jnV (dK (D (jSk S (jSd S - 1)))) v.2 an.2)) ρ).bind _) = _
        rw [f2]; rfl
      rw [r_sgn s2 hd s3 k2 e3 hk12 e4 h112 hk]
      unfold p_r_go_197 p_r_workBinary
      rw [nI_clamp (show jSd S - 1 < 2 ^ 31 by omega), if_neg hni, e5, if_pos (show ¬ nI 2 = 0 by decide), if_neg hni, if_pos (show ¬ nI 2 = (1 : Int32) by decide), if_neg hni, nI_clamp (show jSk S (jSd S - 1) < 2 ^ 31 by omega), if_neg hni2, h112, a2, r_num, x2, r_num, h111]
      by_cases y : dK (D (jSk S (jSd S - 1))) = 26
      · have : nI (dK (D (jSk S (jSd S - 1)))) = (26 : Int32) := by rw [y]; rfl
        rw [if_neg (fun q => q this), if_pos (z' y)]; rfl
      · rw [if_pos (show ¬ nI (dK (D (jSk S (jSd S - 1)))) = (26 : Int32) from fun q => y ((nI_eq (b := 26) (by omega) (by omega)).1 q))]; rfl
    · have : remS 2 = 16 := rfl
      omega
