/-! RUNS, 32: ticks: let. -/
theorem let_ty {F : Nat} {pN bN : Nat → Nat} {ty : Nat → Nat → Nat} {f : Nat} {W : Nat → Nat} {d : jDs} {k : Nat} (h : okT F pN bN ty f W d k) (hK : dK d = 5) : dM d = 2 ∧ W k < 2 ∧ W (dC d 0) = ty f (dS d) ∧ W (dC d 1) = W k := by
  unfold okT at h
  rcases h with h | h | h | h | h | ⟨_, h⟩ | h | h | h | h
  · omega
  · omega
  · omega
  · omega
  · omega
  · exact h
  · omega
  · omega
  · omega
  · omega
/-- what is let is bound; the second part begins -/
theorem let_bind {E : jEn} {G : jGh} {F : Nat} {nS pN bN lN' : Nat → Nat} {ty : Nat → Nat → Nat} {W : Nat → Nat} {D : Nat → jDs} {tk LO : Nat → Nat} {sl sp : Nat → Nat → Nat} {H : jHp} {S : jSt} {an v : aV} {bt fc st lm go u : Nat} {τ ρ : jx_S} (h : RU1 E G F nS pN bN lN' ty W D tk LO sl sp H S u an bt fc st lm go τ ρ) (hu : u ≤ 1) (hd : 0 < jSd S) (hz : BZ H S 0) (hK : dK (D (jSk S (jSd S - 1))) = 5) (hsg : jSg S (jSd S - 1) < 2) (hv : VT F pN bN ty W H (W (dC (D (jSk S (jSd S - 1))) 0)) v) : ∃ τ' ρ', p_cMac_workLet_101 (nI (jSk S (jSd S - 1) + 1)) (cV v) (nI (jFb H (jSf S (jSd S - 1)) + dS (D (jSk S (jSd S - 1))))) τ = some τ' ∧ p_r_workLet_95 (nI (jSd S - 1)) (nI (jSk S (jSd S - 1))) (nI (jFb H (jSf S (jSd S - 1)))) (rV v) ρ = some ρ' ∧ ((∃ H', EN H' go τ' ρ') ∨ ∃ H' S' an', RUN E G F nS pN bN lN' ty W D tk LO sl sp H' S' 0 an' bt fc (st + 1) lm go τ' ρ' ∧ mea S' (st + 1) lm = mea (sSet S 100) st lm) := by
  have h' := h
  obtain ⟨h1, _, ⟨⟨s1, s2, s3⟩, s4, s5⟩, ⟨k1, k2, _⟩, hH, ⟨i1, it, _⟩, _⟩ := h'
  have hse := it hd
  obtain ⟨_, w2, _⟩ := s5 (jSd S - 1) (by omega)
  have hF := (hH.1.2 _ hse.1.1).1
  have hN := (h1.2.2 _ hF).2.2.2.2 _ hse.1.2.1 hse.1.2.2
  obtain ⟨hA, hT, _, _, _, _, n5, _⟩ := id hN
  obtain ⟨t1, t2, t3, t4⟩ := let_ty hT hK
  have hn5 := n5 hK
  have hk12 := hA.1
  have hfe := (hH.1.2 _ hse.1.1).2.1
  have hfe0 := hH.1.1
  have e2 : v_cMac_frame τ = nI (jFb H (jSf S (jSd S - 1))) := by
    unfold v_cMac_frame
    rw [show τ.1 8 11 - 1 = nI (jSd S - 1) by rw [s1]; exact nI_sub (b := 1) (by omega), jI_at_in (by omega) (by omega), w2.1]
  have er2 : rstg (dK (D (jSk S (jSd S - 1)))) 100 = 2 := by unfold rstg; rw [if_pos rfl, if_neg (by omega)]
  generalize ha : jFb H (jSf S (jSd S - 1)) + dS (D (jSk S (jSd S - 1))) = a
  have ha2 : a < 30000 := by omega
  have hbs : ∀ s, bsD D (jSk S (jSd S - 1)) s → s = dS (D (jSk S (jSd S - 1))) := fun s q => by unfold bsD at q; omega
  have hbs0 : bsD D (jSk S (jSd S - 1)) (dS (D (jSk S (jSd S - 1)))) := Or.inl ⟨hK, rfl⟩
  have hR := RU0_bnd (τ' := cStg (jL_put 30000 τ 97 (nI a) (cV v)) (jSd S) 100) (ρ' := jx_i (jx_l ρ 150 a (rV v)) 163 (jSd S - 1) (nI 2)) (v := fun _ => v) h hu hd (Or.inl hK) hsg (fun s q => by rw [hbs s q, ← t3]; exact hv) rfl (fun r hr => by
      show (jL_put 30000 τ 97 (nI a) (cV v)).2 r = _
      rw [s_q_ne hr]) (fun j hj => by
      show (jL_put 30000 τ 97 (nI a) (cV v)).2 97 j = _
      have z1 := hj _ hbs0
      rw [s_q_eq, jL_up_in (by omega) (by omega), v_ne (by omega)]) (fun s q => by
      show (jL_put 30000 τ 97 (nI a) (cV v)).2 97 (jFb H (jSf S (jSd S - 1)) + s) = cV v
      rw [s_q_eq, jL_up_in (by omega) (by omega), hbs s q, v_eq ha]) (by
      unfold rStg; rw [er2]; rfl) (fun r hr => by
      show (jx_l ρ 150 a (rV v)).2 r = _
      rw [s_l_ne hr]) (fun j hj => by
      show (jx_l ρ 150 a (rV v)).2 150 j = _
      have z1 := hj _ hbs0
      rw [s_l_eq, v_ne (by omega)]) (fun s q => by
      show (jx_l ρ 150 a (rV v)).2 150 (jFb H (jSf S (jSd S - 1)) + s) = rV v
      rw [s_l_eq, hbs s q, v_eq ha])
  obtain ⟨τ', ρ', r1, r2, r3⟩ := part_beg (i := 1) hR hd hz (show 1 < dM (D (jSk S (jSd S - 1))) by omega) (by rw [set_at]; omega) (fun i' q => by
      rw [set_at] at q
      have q' : unus (dK (D (jSk S (jSd S - 1)))) (dM (D (jSk S (jSd S - 1)))) 100 ≤ i' := q
      unfold unus at q'
      rw [if_pos rfl] at q'
      omega) (show W (dC (D (jSk S (jSd S - 1))) 1) < 2 by omega) (by
      rw [set_at]
      show W (dC (D (jSk S (jSd S - 1))) 1) = xtyp W D (jSk S (jSd S - 1)) 100
      unfold xtyp
      rw [if_pos (Or.inl rfl)]
      exact t4) (show dK (D (jSk S (jSd S - 1))) ≠ 28 by omega) (fun s q => by
      have q' : bnd (dK (D (jSk S (jSd S - 1)))) 1 (dS (D (jSk S (jSd S - 1)))) s := q
      refine Or.inl ⟨rfl, ?_⟩
      unfold bnd at q'
      rcases q' with q' | q'
      · exact Or.inl ⟨hK, q'.2.2⟩
      · omega) (fun x q1 q2 => hse.2.2.2.2.2.1 1 hu (by omega) x q1 q2)
  have hni : ¬ (nI (jSd S - 1) < 0 ∨ 251 ≤ jSd S - 1) := fun z => by
    rcases z with z | z
    · exact nI_pos (by omega) z
    · omega
  have hni2 : ¬ (nI (jSk S (jSd S - 1)) < 0 ∨ 3000 ≤ jSk S (jSd S - 1)) := fun z => by
    rcases z with z | z
    · exact nI_pos (by omega) z
    · omega
  refine ⟨τ', ρ', ?_, ?_, r3⟩
  · have hA' : AN E (jL_put 30000 τ 97 (nI a) (cV v)) ρ (jSk S (jSd S - 1)) (tk (jSk S (jSd S - 1))) (D (jSk S (jSd S - 1))) := hA
    have hb : p_cMac_beginPart (nI (dC (D (jSk S (jSd S - 1))) 1 + 1)) (100 : Int32) (jL_put 30000 τ 97 (nI a) (cV v)) = some τ' := (c_bp (τ := jL_put 30000 τ 97 (nI a) (cV v)) (sg := 100) s1 hd e2).trans r1
    unfold p_cMac_workLet_101
    rw [k1, if_neg (fun q => q rfl), show p_cTre_part (nI (jSk S (jSd S - 1) + 1)) (1 : Int32) (jL_put 30000 τ 97 (nI a) (cV v)) = _ from c_kid (i := 1) hA' (by omega), Option.bind_some]
    show ((p_cMac_beginPart (nI (dC (D (jSk S (jSd S - 1))) 1 + 1)) (100 : Int32) (jL_put 30000 τ 97 (nI a) (cV v))).bind _) = _
    rw [hb]; rfl
  · have h115 : ρ.1 115 (jSk S (jSd S - 1)) = nI (dC (D (jSk S (jSd S - 1))) 1) := hA.2.2.2.2.2.2.2.2.2.2.1 (by omega) (by omega)
    have h117 : ρ.1 117 (jSk S (jSd S - 1)) = nI (dS (D (jSk S (jSd S - 1)))) := (hA.2.2.2.2.2.2.2.2.2.2.2.2.2.2.2.1 hK).1
    have r2' : p_r_begin (nI (dC (D (jSk S (jSd S - 1))) 1)) (nI (jFb H (jSf S (jSd S - 1)))) (-1) (jx_i (jx_l ρ 150 a (rV v)) 163 (jSd S - 1) (2 : Int32)) = some ρ' := r2
    unfold p_r_workLet_95
    rw [k2, if_neg (fun q => q rfl), nI_clamp (show jSk S (jSd S - 1) < 2 ^ 31 by omega), if_neg hni2, h117, nI_add, ha, if_neg (nI_in ha2 (by omega)), nI_clamp (show jSd S - 1 < 2 ^ 31 by omega), if_neg hni, if_neg hni2, nI_clamp (show a < 2 ^ 31 by omega), h115, r2']
    rfl
theorem tick_let {E : jEn} {G : jGh} {F : Nat} {nS pN bN lN' : Nat → Nat} {ty : Nat → Nat → Nat} {W : Nat → Nat} {D : Nat → jDs} {tk LO : Nat → Nat} {sl sp : Nat → Nat → Nat} {H : jHp} {S : jSt} {pd : Nat} {an : aV} {bt fc st lm go : Nat} {τ ρ : jx_S} (h : RUN E G F nS pN bN lN' ty W D tk LO sl sp H S pd an bt fc st lm go τ ρ) (hd : 0 < jSd S) (hk : dK (D (jSk S (jSd S - 1))) = 5) (hn100 : jSg S (jSd S - 1) ≠ 100) : ∃ τ' ρ', tk1 τ = some τ' ∧ p_r_go_0_s ρ = some (.inl ρ') ∧ NX E G F nS pN bN lN' ty W D tk LO sl sp S bt fc st lm go 1 τ' ρ' := by
  obtain ⟨e1, e2, hse, hF, hN, ⟨e3, e4, e5⟩, s1, s2, s3, k2, hsg, hk12⟩ := top_of h hd
  have hsg01 : jSg S (jSd S - 1) = 0 ∨ jSg S (jSd S - 1) = 1 := by
    have h5 := hse.2.2.2.2.1
    unfold stgOK at h5
    omega
  obtain ⟨hA, hT, _, _, _, _, n5, _⟩ := id hN
  obtain ⟨t1, t2, t3, t4⟩ := let_ty hT hk
  obtain ⟨m1, m2, m3, m4, m5⟩ := n5 hk
  have hpd : pd = 0 := by
    rcases h.2.1.2.1 hd with q | q
    · exact q.2
    · exact q.1.2.2 (fun z => by omega)
  subst hpd
  have hz := h.2.1.2.2.2.2
  have hwo : tk1 τ = p_cMac_workLet (nI (jSk S (jSd S - 1) + 1)) (nI (jSg S (jSd S - 1))) τ := by
    rw [e1, c_wo hA hsg, if_neg hn100, hk, if_neg (by decide), if_pos (show nI 5 = (5 : Int32) from rfl)]
    cases p_cMac_workLet (nI (jSk S (jSd S - 1) + 1)) (nI (jSg S (jSd S - 1))) τ <;> rfl
  have hgo : p_r_go_0_s ρ = (p_r_workLet (nI (jSd S - 1)) (nI (jSk S (jSd S - 1))) (nI (jFb H (jSf S (jSd S - 1)))) ρ).bind fun q => some (.inl q) := by
    rw [r_goh s2 hd s3 k2 e3 hk12 e4 hA.2.2.2.2.2.1, hk, if_neg (show ¬ 28 ≤ 5 by omega), if_neg (by decide), if_neg (by decide), if_pos (show nI 5 = (5 : Int32) from rfl)]
    rfl
  rw [hwo, hgo]
  clear hwo hgo
  have hni : ¬ (nI (jSd S - 1) < 0 ∨ 251 ≤ jSd S - 1) := fun z => by
    rcases z with z | z
    · exact nI_pos (by omega) z
    · omega
  have hni2 : ¬ (nI (jSk S (jSd S - 1)) < 0 ∨ 3000 ≤ jSk S (jSd S - 1)) := fun z => by
    rcases z with z | z
    · exact nI_pos (by omega) z
    · omega
  have hsl : v_cMac_frame τ + jI_at 1201 (τ.1 33) (nI (jSk S (jSd S - 1) + 1)) = nI (jFb H (jSf S (jSd S - 1)) + dS (D (jSk S (jSd S - 1)))) := by
    rw [e2, jI_at_in (by omega) (by omega), (hA.2.2.2.2.2.2.2.2.2.2.2.2.2.2.2.1 hk).2, nI_add]
  have h114 : ρ.1 114 (jSk S (jSd S - 1)) = nI (dC (D (jSk S (jSd S - 1))) 0) := hA.2.2.2.2.2.2.2.2.2.1 (by omega)
  have hun : ∀ sg, sg < 100 → unus (dK (D (jSk S (jSd S - 1)))) (dM (D (jSk S (jSd S - 1)))) sg = sg := fun sg q => by unfold unus; rw [if_neg (by omega), if_neg (by omega)]
  have er : ∀ sg, sg < 100 → rstg (dK (D (jSk S (jSd S - 1)))) sg = sg := fun sg q => by unfold rstg; rw [if_neg (by omega), if_neg (by omega)]
  rcases hsg01 with hsg0 | hsg1
  · have hms := mea_set (S := S) (st := st) (lm := lm) (sg := 100) hd
    have hms1 := mea_set (S := S) (st := st) (lm := lm) (sg := 1) hd
    rw [hsg0] at hms hms1
    have hr0 : remS 0 = 18 ∧ remS 100 = 1 ∧ remS 1 = 17 := ⟨rfl, rfl, rfl⟩
    rw [hsg0, er 0 (by omega)] at e5
    obtain ⟨w1, w2, w3, w4, w5, w6⟩ := h.1.2.2.1.2.2 (jSd S - 1) (by omega)
    have h2' := RU2_of (RU1_of h.1)
    rw [hsg0, hun 0 (by omega)] at h2'
    have hq := h.1.2.2.2.1.2.2.2.2.2.2.1
    by_cases hst : τ.1 8 13 = 1 ∧ sl (jFf H (jSf S (jSd S - 1))) (jSk S (jSd S - 1)) = 1
    · -- a strict one
      have h3 := RU2_str h2'
      have h4 := RU1_close h3 hd (by rw [s_p_ne (by decide)]; exact w3.1) (by rw [s_i_ne (by decide)]; exact w3.2) (by rw [s_i_eq, u_ne (by decide)]; exact h.1.2.2.1.2.1) (by unfold keptS; exact kept_n (by omega)) (by omega)
      have hR := RU0_stg (sg := 1) h4 hd (by omega) (fun _ q => absurd q (by omega)) (Or.inr (Or.inr (Or.inr (Or.inr (Or.inl ⟨by omega, Or.inl rfl⟩))))) (by rw [hun 1 (by omega)]; omega) (fun _ => by omega)
      obtain ⟨τ', ρ', r1, r2, r3⟩ := part_beg (i := 0) hR hd hz (show 0 < dM (D (jSk S (jSd S - 1))) by omega) (by rw [set_at]; omega) (fun i' q => by
          rw [set_at] at q
          have q' : unus (dK (D (jSk S (jSd S - 1)))) (dM (D (jSk S (jSd S - 1)))) 1 ≤ i' := q
          rw [hun 1 (by omega)] at q'
          omega) (show W (dC (D (jSk S (jSd S - 1))) 0) < 2 by omega) (by
          rw [set_at]
          show W (dC (D (jSk S (jSd S - 1))) 0) = xtyp W D (jSk S (jSd S - 1)) 1
          unfold xtyp
          rw [if_neg (by omega), if_neg (by omega), if_pos hk]) (show dK (D (jSk S (jSd S - 1))) ≠ 28 by omega) (fun s q => by
          have q' : bnd (dK (D (jSk S (jSd S - 1)))) 0 (dS (D (jSk S (jSd S - 1)))) s := q
          unfold bnd at q'; omega) (fun x q1 q2 => hse.2.2.2.2.2.1 0 (by rw [hsg0, hun 0 (by omega)]; omega) (by omega) x q1 q2)
      refine ⟨τ', ρ', ?_, ?_, ?_⟩
      · have hA' : AN E (jI_put 10 τ 71 (9 : Int32) (jI_at 10 (τ.1 71) (9 : Int32) + 1)) ρ (jSk S (jSd S - 1)) (tk (jSk S (jSd S - 1))) (D (jSk S (jSd S - 1))) := by
          have hr : RP E G F nS pN bN lN' ty W D tk LO sl sp (jI_put 10 τ 71 (9 : Int32) (jI_at 10 (τ.1 71) (9 : Int32) + 1)) ρ := RP_keep h.1.1 (fun r hr => s_p_ne (fun z => by subst z; revert hr; decide)) rfl (fun _ _ => rfl)
          exact ((hr.2.2 _ hF).2.2.2.2 _ hse.1.2.1 hse.1.2.2).1
        have e2' : v_cMac_frame (jI_put 10 τ 71 (9 : Int32) (jI_at 10 (τ.1 71) (9 : Int32) + 1)) = nI (jFb H (jSf S (jSd S - 1))) := by
          rw [← e2]
          unfold v_cMac_frame
          simp (disch := first | assumption | decide | omega) only [nI_lit, cT_lt, cF_lt, cT_le, cF_le, cT_eq, cF_eq, nF_le, mF_eq, mG_eq, mT_lt, eq_self, nI_clamp, nI_add, Nat.add_zero, nI_sub, s_i_ne, s_i_eq, s_i_2, s_l_1, s_l_ne, s_l_eq, s_p_ne, s_p_eq, s_p_2, s_q_1, s_q_ne, s_q_eq, u_ne, u_eq, v_ne, v_eq, w_ne, w_eq, jI_at_in, jL_at_in, false_or, or_false, true_or, or_true, true_and, and_true, false_and, and_false, not_true_eq_false, not_false_eq_true, ↓reduceIte, Option.bind_some, Option.map_some]
        have hb : p_cMac_beginPart (nI (dC (D (jSk S (jSd S - 1))) 0 + 1)) (1 : Int32) (jI_put 10 τ 71 (9 : Int32) (jI_at 10 (τ.1 71) (9 : Int32) + 1)) = some τ' := (c_bp (sg := 1) (by rw [s_p_ne (by decide)]; exact s1) hd e2').trans r1
        unfold p_cMac_workLet
        rw [hsg0, if_neg (show ¬ ¬ nI 0 = 0 from fun z => z rfl), hst.1, if_neg (by decide), jI_at_in (by omega) (by omega), m2, hst.2, if_neg (show ¬ ¬ nI 1 = (1 : Int32) from fun z => z rfl), show p_cTre_part (nI (jSk S (jSd S - 1) + 1)) (0 : Int32) (jI_put 10 τ 71 (9 : Int32) (jI_at 10 (τ.1 71) (9 : Int32) + 1)) = _ from c_kid (i := 0) hA' (by omega), Option.bind_some]
        show ((p_cMac_beginPart (nI (dC (D (jSk S (jSd S - 1))) 0 + 1)) (1 : Int32) (jI_put 10 τ 71 (9 : Int32) (jI_at 10 (τ.1 71) (9 : Int32) + 1))).bind _) = _
        rw [hb]; rfl
      · have r2' : p_r_begin (nI (dC (D (jSk S (jSd S - 1))) 0)) (nI (jFb H (jSf S (jSd S - 1)))) (-1) (jx_i (jx_i ρ 106 92 (ρ.1 106 92 + 1)) 163 (jSd S - 1) (nI (rstg (dK (D (jSk S (jSd S - 1)))) 1))) = some ρ' := r2
        rw [er 1 (by omega)] at r2'
        have r2'' : p_r_begin (nI (dC (D (jSk S (jSd S - 1))) 0)) (nI (jFb H (jSf S (jSd S - 1)))) (-1) (jx_i (jx_i ρ 106 92 (ρ.1 106 92 + 1)) 163 (jSd S - 1) (1 : Int32)) = some ρ' := r2'
        have h86 : ρ.1 106 86 = 1 := by rw [← hq.1]; exact hst.1
        unfold p_r_workLet
        rw [nI_clamp (show jSd S - 1 < 2 ^ 31 by omega), if_neg hni, e5, if_neg (show ¬ ¬ nI 0 = 0 from fun z => z rfl), h86, if_neg (by decide), nI_clamp (show jSk S (jSd S - 1) < 2 ^ 31 by omega), if_neg hni2, m3, hst.2, if_neg (by decide), if_neg hni, if_neg hni2, h114, r2'']
        rfl
      · rcases r3 with r3 | ⟨H', S', an', r3, r4⟩
        · exact Or.inl r3
        · exact Or.inr ⟨H', S', 0, an', st + 1, r3, by omega⟩
    · -- its first part is put off
      have hc68 : p_cMac_workLet (nI (jSk S (jSd S - 1) + 1)) (nI (jSg S (jSd S - 1))) τ = p_cMac_workLet_68 (nI (jSk S (jSd S - 1) + 1)) (nI 0) (nI (jFb H (jSf S (jSd S - 1)) + dS (D (jSk S (jSd S - 1))))) τ := by
        unfold p_cMac_workLet
        rw [hsg0, hsl, if_neg (show ¬ ¬ nI 0 = 0 from fun z => z rfl)]
        by_cases z : τ.1 8 13 = 0
        · rw [if_pos z]
        · rw [if_neg z, jI_at_in (by omega) (by omega), m2]
          have h8 : τ.1 8 13 = 1 := by
            rcases hq.2 with y | y
            · exact absurd y z
            · exact y
          have h0 : sl (jFf H (jSf S (jSd S - 1))) (jSk S (jSd S - 1)) = 0 := by
            have : ¬ sl (jFf H (jSf S (jSd S - 1))) (jSk S (jSd S - 1)) = 1 := fun y => hst ⟨h8, y⟩
            omega
          rw [h0, if_pos (by decide)]
      have hr57 : p_r_workLet (nI (jSd S - 1)) (nI (jSk S (jSd S - 1))) (nI (jFb H (jSf S (jSd S - 1)))) ρ = p_r_workLet_57 (nI (jSd S - 1)) (nI (jSk S (jSd S - 1))) (nI (jFb H (jSf S (jSd S - 1)))) ρ := by
        unfold p_r_workLet
        rw [nI_clamp (show jSd S - 1 < 2 ^ 31 by omega), if_neg hni, e5, if_neg (show ¬ ¬ nI 0 = 0 from fun z => z rfl), ← hq.1]
        by_cases z : τ.1 8 13 = 0
        · rw [if_pos z]
        · rw [if_neg z, nI_clamp (show jSk S (jSd S - 1) < 2 ^ 31 by omega), if_neg hni2, m3]
          have h8 : τ.1 8 13 = 1 := by
            rcases hq.2 with y | y
            · exact absurd y z
            · exact y
          have h0 : sl (jFf H (jSf S (jSd S - 1))) (jSk S (jSd S - 1)) = 0 := by
            have : ¬ sl (jFf H (jSf S (jSd S - 1))) (jSk S (jSd S - 1)) = 1 := fun y => hst ⟨h8, y⟩
            omega
          rw [h0, if_pos (by decide)]
      rw [hc68, hr57]
      clear hc68 hr57
      have hc : ∀ v τ1, p_cMac_putOff 33 (nI (dC (D (jSk S (jSd S - 1))) 0 + 1)) (0 : Int32) τ = some (v, τ1) → p_cMac_workLet_68 (nI (jSk S (jSd S - 1) + 1)) (nI 0) (nI (jFb H (jSf S (jSd S - 1)) + dS (D (jSk S (jSd S - 1))))) τ = p_cMac_workLet_101 (nI (jSk S (jSd S - 1) + 1)) v (nI (jFb H (jSf S (jSd S - 1)) + dS (D (jSk S (jSd S - 1))))) τ1 := fun v τ1 q => by
        unfold p_cMac_workLet_68
        rw [if_neg (show ¬ ¬ nI 0 = 0 from fun z => z rfl), show p_cTre_part (nI (jSk S (jSd S - 1) + 1)) (0 : Int32) τ = _ from c_kid (i := 0) hA (by omega), Option.bind_some]
        show ((p_cMac_putOff 33 (nI (dC (D (jSk S (jSd S - 1))) 0 + 1)) (0 : Int32) τ).bind _) = _
        rw [q, Option.bind_some]
      have hr : ∀ v ρ1, p_r_putOff (nI (dC (D (jSk S (jSd S - 1))) 0)) (nI (jFb H (jSf S (jSd S - 1)))) ρ = some (v, ρ1) → p_r_workLet_57 (nI (jSd S - 1)) (nI (jSk S (jSd S - 1))) (nI (jFb H (jSf S (jSd S - 1)))) ρ = p_r_workLet_95 (nI (jSd S - 1)) (nI (jSk S (jSd S - 1))) (nI (jFb H (jSf S (jSd S - 1)))) v ρ1 := fun v ρ1 q => by
        unfold p_r_workLet_57
        rw [nI_clamp (show jSd S - 1 < 2 ^ 31 by omega), if_neg hni, e5, if_neg (by decide), if_neg hni, if_pos (by decide), nI_clamp (show jSk S (jSd S - 1) < 2 ^ 31 by omega), if_neg hni2, h114, q, Option.bind_some]
      rcases mid_put h2' hd (show 0 < dM (D (jSk S (jSd S - 1))) by omega) (fun s q => by unfold bnd at q; omega) with ⟨a, τ1, ρ1, H1, r1, r2, x1, x2, ⟨x3, x4⟩, x5, x6, _⟩ | ⟨v, y, τ1, ρ1, H1, r1, r2, x1, ⟨x3, x4⟩, x5, x6⟩
      · have h4 := RU1_close x1 hd (by rw [x3.1 79 (by decide)]; exact w3.1) (by rw [x4.1 163 (by decide)]; exact w3.2) (by rw [x4.2.1 85 (by decide)]; exact h.1.2.2.1.2.1) (by unfold keptS; exact kept_n (by omega)) (by omega)
        have hlb := let_bind h4 (by omega) hd (BZ_put hz (HQc_of x6)) hk (by omega) x2
        rw [(HQ_f x6).2.1] at hlb
        obtain ⟨τ', ρ', y1, y2, y3⟩ := hlb
        refine ⟨τ', ρ', (hc _ _ r1).trans y1, by rw [hr _ _ r2, y2]; rfl, ?_⟩
        rcases y3 with r3 | ⟨H', S', an', r3, r4⟩
        · exact Or.inl r3
        · exact Or.inr ⟨H', S', 0, an', st + 1, r3, by omega⟩
      · refine ⟨_, ρ1, (hc _ _ r1).trans (by unfold p_cMac_workLet_101; rw [x5, if_pos (by decide)]), ?_, Or.inl ⟨H1, EN_keep (τ' := jL_put 30000 τ1 97 (nI (jFb H (jSf S (jSd S - 1)) + dS (D (jSk S (jSd S - 1))))) v) x1 rfl rfl rfl rfl⟩⟩
        rw [hr _ _ r2]
        unfold p_r_workLet_95
        rw [x6, if_pos (by decide)]
        rfl
  · have hms := mea_set (S := S) (st := st) (lm := lm) (sg := 100) hd
    rw [hsg1] at hms
    have hr0 : remS 1 = 17 ∧ remS 100 = 1 := ⟨rfl, rfl⟩
    rw [hsg1, er 1 (by omega)] at e5
    obtain ⟨a1, a2⟩ := h.2.2 (Or.inr (by omega))
    have hv : VT F pN bN ty W H (W (dC (D (jSk S (jSd S - 1))) 0)) an := by
      rcases h.2.1.2.1 hd with q | q
      · omega
      · have := q.2.2
        rw [hsg1] at this
        unfold xtyp at this
        rw [if_neg (by omega), if_neg (by omega), if_pos hk] at this
        exact this
    have h1' := RU1_of h.1
    rw [hsg1, hun 1 (by omega)] at h1'
    obtain ⟨τ', ρ', y1, y2, y3⟩ := let_bind h1' (Nat.le_refl 1) hd hz hk (by omega) hv
    refine ⟨τ', ρ', ?_, ?_, ?_⟩
    · unfold p_cMac_workLet p_cMac_workLet_68
      rw [hsg1, if_pos (show ¬ nI 1 = 0 by decide), hsl, if_pos (show ¬ nI 1 = 0 by decide), a1]
      exact y1
    · have : p_r_workLet (nI (jSd S - 1)) (nI (jSk S (jSd S - 1))) (nI (jFb H (jSf S (jSd S - 1)))) ρ = some ρ' := by
        unfold p_r_workLet p_r_workLet_57
        rw [nI_clamp (show jSd S - 1 < 2 ^ 31 by omega), if_neg hni, e5, if_pos (show ¬ nI 1 = 0 by decide), if_neg hni, if_neg (by decide), if_neg hni, if_neg (show ¬ ¬ nI 1 = (1 : Int32) from fun z => z rfl), a2]
        exact y2
      rw [this]; rfl
    · rcases y3 with r3 | ⟨H', S', an', r3, r4⟩
      · exact Or.inl r3
      · exact Or.inr ⟨H', S', 0, an', st + 1, r3, by omega⟩
