/-! RUNS, 26: ticks: a case, once its list is worked. -/
theorem tick_ca1 {E : jEn} {G : jGh} {F : Nat} {nS pN bN lN' : Nat → Nat} {ty : Nat → Nat → Nat} {W : Nat → Nat} {D : Nat → jDs} {tk LO : Nat → Nat} {sl sp : Nat → Nat → Nat} {H : jHp} {S : jSt} {pd : Nat} {an : aV} {bt fc st lm go : Nat} {τ ρ : jx_S} (h : RUN E G F nS pN bN lN' ty W D tk LO sl sp H S pd an bt fc st lm go τ ρ) (hd : 0 < jSd S) (hk : dK (D (jSk S (jSd S - 1))) = 10) (hsg1 : jSg S (jSd S - 1) = 1) : ∃ τ' ρ', tk1 τ = some τ' ∧ p_r_go_0_s ρ = some (.inl ρ') ∧ NX E G F nS pN bN lN' ty W D tk LO sl sp S bt fc st lm go 1 τ' ρ' := by
  obtain ⟨e1, e2, hse, hF, hN, ⟨e3, e4, e5⟩, s1, s2, s3, k2, hsg, hk12⟩ := top_of h hd
  obtain ⟨hA, hT, _, _, _, _, _, n10, _⟩ := id hN
  obtain ⟨nl, ny0, ny1⟩ := n10 hk
  obtain ⟨t1, t2, t3, t4, t5⟩ := ch_ty hT (Or.inr hk)
  obtain ⟨u1, u2, u3⟩ : SW W D H S (jSd S - 1) pd ∧ an.1 < 3 ∧ VT F pN bN ty W H (xtyp W D (jSk S (jSd S - 1)) (jSg S (jSd S - 1))) an := by
    rcases h.2.1.2.1 hd with q | q
    · omega
    · exact q
  have hpd : pd = 0 := u1.2.2 (fun q => by omega)
  subst hpd
  have hxt : xtyp W D (jSk S (jSd S - 1)) (jSg S (jSd S - 1)) = 1 := by
    unfold xtyp
    rw [hsg1, if_neg (by omega), if_neg (by omega), if_neg (by omega), if_pos hk]
  rw [hxt] at u3
  obtain ⟨a1, a2⟩ := h.2.2 (Or.inr (by omega))
  have hun : unus (dK (D (jSk S (jSd S - 1)))) (dM (D (jSk S (jSd S - 1)))) 100 = 3 := by unfold unus; rw [if_pos rfl]; exact t1
  have hun1 : unus (dK (D (jSk S (jSd S - 1)))) (dM (D (jSk S (jSd S - 1)))) 1 = 1 := by unfold unus; rw [if_neg (by omega), if_neg (by omega)]
  have hni : ¬ (nI (jSd S - 1) < 0 ∨ 251 ≤ jSd S - 1) := fun z => by
    rcases z with z | z
    · exact nI_pos (by omega) z
    · omega
  have hni2 : ¬ (nI (jSk S (jSd S - 1)) < 0 ∨ 3000 ≤ jSk S (jSd S - 1)) := fun z => by
    rcases z with z | z
    · exact nI_pos (by omega) z
    · omega
  have hms := mea_set (S := S) (st := st) (lm := lm) (sg := 100) hd
  rw [hsg1] at hms
  have hr0 : remS 1 = 17 ∧ remS 100 = 1 := ⟨rfl, rfl⟩
  have er1 : rstg (dK (D (jSk S (jSd S - 1)))) 1 = 1 := by unfold rstg; rw [if_neg (by omega), if_neg (by omega)]
  have er2 : rstg (dK (D (jSk S (jSd S - 1)))) 100 = 2 := by unfold rstg; rw [if_pos rfl, if_neg (by omega)]
  have h112 : ρ.1 112 (jSk S (jSd S - 1)) = nI 10 := by
    have := hA.2.2.2.2.2.1
    rw [hk] at this
    exact this
  have h115 : ρ.1 115 (jSk S (jSd S - 1)) = nI (dC (D (jSk S (jSd S - 1))) 1) := hA.2.2.2.2.2.2.2.2.2.2.1 (by omega) (by omega)
  have h116 : ρ.1 116 (jSk S (jSd S - 1)) = nI (dC (D (jSk S (jSd S - 1))) 2) := hA.2.2.2.2.2.2.2.2.2.2.2.1 (by omega) (by omega)
  have htc : v_cHea_tagOf (cV an) τ = nI (an.1 + 1) := c_tag (by omega) an.2 τ
  have htr : ∀ σ, v_r_tagOf (rV an) σ = nI an.1 := fun σ => r_tag (by omega) an.2 σ
  rcases (show (an.1 = 1) ∨ (an.1 = 2 ∧ ∃ c, c < jCn H ∧ an.2 = nI c) by
      rcases u3 with q | q | ⟨q1, _, q2⟩ | q | q | q
      · omega
      · exact Or.inl q.1
      · exact Or.inr ⟨q1, q2⟩
      · omega
      · omega
      · omega) with hn | ⟨hn, c, hc, hc2⟩
  · have hR := RU0_stg (sg := 100) (RU1_of h.1) hd (by omega) (fun _ q => absurd q (by omega)) (Or.inr (Or.inr (Or.inr (Or.inr (Or.inl ⟨by omega, Or.inr rfl⟩))))) (by rw [hsg1, hun, hun1]; omega) (fun _ => by omega)
    obtain ⟨τ', ρ', r1, r2, r3⟩ := part_beg (i := 1) hR hd h.2.1.2.2.2.2 (show 1 < dM (D (jSk S (jSd S - 1))) by omega) (by rw [set_at]; omega) (fun i' q => by
      rw [set_at] at q
      have q' : unus (dK (D (jSk S (jSd S - 1)))) (dM (D (jSk S (jSd S - 1)))) 100 ≤ i' := q
      omega) (show W (dC (D (jSk S (jSd S - 1))) 1) < 2 by omega) (by
      rw [set_at]
      show W (dC (D (jSk S (jSd S - 1))) 1) = xtyp W D (jSk S (jSd S - 1)) 100
      unfold xtyp
      rw [if_pos (Or.inl rfl)]
      exact t4) (show dK (D (jSk S (jSd S - 1))) ≠ 28 by omega) (fun s q => by
      have q' : bnd (dK (D (jSk S (jSd S - 1)))) 1 (dS (D (jSk S (jSd S - 1)))) s := q
      unfold bnd at q'; omega) (fun x q1 q2 => hse.2.2.2.2.2.1 1 (by rw [hsg1, hun1]; omega) (by omega) x q1 q2)
    refine ⟨τ', ρ', ?_, ?_, ?_⟩
    · rw [e1, c_wo hA hsg, hsg1, if_neg (by omega), hk, if_neg (by decide), if_neg (by decide), if_neg (by decide), if_pos (show nI 10 = (10 : Int32) from rfl)]
      have hb : p_cMac_beginPart (nI (dC (D (jSk S (jSd S - 1))) 1 + 1)) (100 : Int32) τ = some τ' := (c_bp (sg := 100) s1 hd e2).trans r1
      unfold p_cMac_workCase
      rw [if_pos (show ¬ nI 1 = 0 by decide), a1, htc, hn, if_neg (by decide), show p_cTre_part (nI (jSk S (jSd S - 1) + 1)) (1 : Int32) τ = _ from c_kid (i := 1) hA (by omega), Option.bind_some]
      show ((((p_cMac_beginPart (nI (dC (D (jSk S (jSd S - 1))) 1 + 1)) (100 : Int32) τ).bind _)).bind _) = _
      rw [hb]; rfl
    · rw [r_goh s2 hd s3 k2 e3 hk12 e4 hA.2.2.2.2.2.1, hk, if_neg (show ¬ 28 ≤ 10 by omega), if_neg (by decide), if_neg (by decide), if_neg (by decide), if_neg (by decide), if_pos (show nI 10 = (10 : Int32) from rfl)]
      have r2' : p_r_begin (nI (dC (D (jSk S (jSd S - 1))) 1)) (nI (jFb H (jSf S (jSd S - 1)))) (-1) (jx_i ρ 163 (jSd S - 1) (nI (rstg (dK (D (jSk S (jSd S - 1)))) 100))) = some ρ' := r2
      rw [er2] at r2'
      unfold p_r_go_168 p_r_workChoice p_r_workChoice_93 p_r_workChoice_153 p_r_workChoice_174
      rw [nI_clamp (show jSd S - 1 < 2 ^ 31 by omega), if_neg hni, e5, hsg1, er1, if_pos (show ¬ nI 1 = 0 by decide), if_neg hni, if_neg (show ¬ ¬ nI 1 = (1 : Int32) from fun z => z rfl), if_neg hni, nI_clamp (show jSk S (jSd S - 1) < 2 ^ 31 by omega)]
      rw [if_neg hni2, h112, if_pos (show ¬ nI 10 = (7 : Int32) by decide), a2, htr, hn, if_neg (show ¬ ¬ nI 1 = (1 : Int32) from fun z => z rfl), if_neg hni2]
      rw [s_i_ne (show (112 : Nat) ≠ 163 by decide), h112, if_neg (show ¬ ¬ nI 10 = (10 : Int32) from fun z => z rfl), if_pos (show ¬ (1 : Int32) = 0 by decide), if_neg (show ¬ (1 : Int32) = 0 by decide), if_neg hni2, s_i_ne (show (115 : Nat) ≠ 163 by decide), h115, show (2 : Int32) = nI 2 from rfl, r2']; rfl
    · rcases r3 with r3 | ⟨H', S', an', r3, r4⟩
      · exact Or.inl r3
      · exact Or.inr ⟨H', S', 0, an', st + 1, r3, by omega⟩
  · -- a cell: its two are bound
    obtain ⟨⟨x1, x2⟩, x3, x4⟩ := h.1.2.1.2.1.2.2 c hc
    have hcn := h.1.2.2.2.2.1.2.2.2.1.1
    obtain ⟨y1, y2⟩ := h.1.2.2.2.2.1.2.2.2.1.2 c hc
    have hfe := (h.1.2.2.2.2.1.1.2 _ hse.1.1).2.1
    have hfe0 := h.1.2.2.2.2.1.1.1
    generalize ha : jFb H (jSf S (jSd S - 1)) + dS (D (jSk S (jSd S - 1))) = a
    have ha2 : a + 1 < 30000 := by omega
    have hbs : ∀ s, bsD D (jSk S (jSd S - 1)) s → s = dS (D (jSk S (jSd S - 1))) ∨ s = dS (D (jSk S (jSd S - 1))) + 1 := fun s q => by
      unfold bsD at q; omega
    have hbs0 : bsD D (jSk S (jSd S - 1)) (dS (D (jSk S (jSd S - 1)))) ∧ bsD D (jSk S (jSd S - 1)) (dS (D (jSk S (jSd S - 1))) + 1) := ⟨Or.inr ⟨hk, Or.inl rfl⟩, Or.inr ⟨hk, Or.inr rfl⟩⟩
    have hR := RU0_bnd (τ' := cStg (jL_put 30000 (jL_put 30000 τ 97 (nI a) (cV (jCf H c))) 97 (nI (a + 1)) (cV (jCs H c))) (jSd S) 100) (ρ' := jx_l (jx_l (rStg ρ (jSd S) (dK (D (jSk S (jSd S - 1)))) 100) 150 a (rV (jCf H c))) 150 (a + 1) (rV (jCs H c))) (v := fun s => if s = dS (D (jSk S (jSd S - 1))) then jCf H c else jCs H c) (RU1_of h.1) (by rw [hsg1, hun1]; omega) hd (Or.inr hk) (by omega) (fun s q => by
        rcases hbs s q with z | z
        · show VT F pN bN ty W H _ (if s = dS (D (jSk S (jSd S - 1))) then jCf H c else jCs H c)
          rw [if_pos z, z, ny0]; exact y1
        · show VT F pN bN ty W H _ (if s = dS (D (jSk S (jSd S - 1))) then jCf H c else jCs H c)
          rw [if_neg (by omega), z, ny1]; exact y2) rfl (fun r hr => by
        show (jL_put 30000 (jL_put 30000 τ 97 (nI a) (cV (jCf H c))) 97 (nI (a + 1)) (cV (jCs H c))).2 r = _
        rw [s_q_ne hr, s_q_ne hr]) (fun j hj => by
        show (jL_put 30000 (jL_put 30000 τ 97 (nI a) (cV (jCf H c))) 97 (nI (a + 1)) (cV (jCs H c))).2 97 j = _
        have z1 := hj _ hbs0.1
        have z2 := hj _ hbs0.2
        rw [s_q_eq, jL_up_in (by omega) (by omega), v_ne (by omega), s_q_eq, jL_up_in (by omega) (by omega), v_ne (by omega)]) (fun s q => by
        show (jL_put 30000 (jL_put 30000 τ 97 (nI a) (cV (jCf H c))) 97 (nI (a + 1)) (cV (jCs H c))).2 97 (jFb H (jSf S (jSd S - 1)) + s) = cV (if s = dS (D (jSk S (jSd S - 1))) then jCf H c else jCs H c)
        rw [s_q_eq, jL_up_in (by omega) (by omega), s_q_eq, jL_up_in (by omega) (by omega)]
        rcases hbs s q with z | z
        · rw [if_pos z, v_ne (by omega), v_eq (by omega)]
        · rw [if_neg (by omega), v_eq (by omega)]) rfl (fun r hr => by
        rw [s_l_ne hr, s_l_ne hr]; rfl) (fun j hj => by
        have z1 := hj _ hbs0.1
        have z2 := hj _ hbs0.2
        rw [s_l_eq, v_ne (by omega), s_l_eq, v_ne (by omega)]; rfl) (fun s q => by
        show _ = rV (if s = dS (D (jSk S (jSd S - 1))) then jCf H c else jCs H c)
        rw [s_l_eq, s_l_eq]
        rcases hbs s q with z | z
        · rw [if_pos z, v_ne (by omega), v_eq (by omega)]
        · rw [if_neg (by omega), v_eq (by omega)])
    obtain ⟨τ', ρ', r1, r2, r3⟩ := part_beg (i := 2) hR hd h.2.1.2.2.2.2 (show 2 < dM (D (jSk S (jSd S - 1))) by omega) (by rw [set_at]; omega) (fun i' q => by
      rw [set_at] at q
      have q' : unus (dK (D (jSk S (jSd S - 1)))) (dM (D (jSk S (jSd S - 1)))) 100 ≤ i' := q
      omega) (show W (dC (D (jSk S (jSd S - 1))) 2) < 2 by omega) (by
      rw [set_at]
      show W (dC (D (jSk S (jSd S - 1))) 2) = xtyp W D (jSk S (jSd S - 1)) 100
      unfold xtyp
      rw [if_pos (Or.inl rfl)]
      exact t5) (show dK (D (jSk S (jSd S - 1))) ≠ 28 by omega) (fun s q => by
      have q' : bnd (dK (D (jSk S (jSd S - 1)))) 2 (dS (D (jSk S (jSd S - 1)))) s := q
      refine Or.inl ⟨rfl, ?_⟩
      unfold bnd at q'
      rcases q' with q' | q'
      · omega
      · exact Or.inr ⟨hk, q'.2.2⟩) (fun x q1 q2 => hse.2.2.2.2.2.1 2 (by rw [hsg1, hun1]; omega) (by omega) x q1 q2)
    refine ⟨τ', ρ', ?_, ?_, ?_⟩
    · rw [e1, c_wo hA hsg, hsg1, if_neg (by omega), hk, if_neg (by decide), if_neg (by decide), if_neg (by decide), if_pos (show nI 10 = (10 : Int32) from rfl)]
      have hb : p_cMac_beginPart (nI (dC (D (jSk S (jSd S - 1))) 2 + 1)) (100 : Int32) (jL_put 30000 (jL_put 30000 τ 97 (nI a) (cV (jCf H c))) 97 (nI (a + 1)) (cV (jCs H c))) = some τ' := (c_bp (τ := (jL_put 30000 (jL_put 30000 τ 97 (nI a) (cV (jCf H c))) 97 (nI (a + 1)) (cV (jCs H c)))) (sg := 100) s1 hd e2).trans r1
      have hA' : AN E (jL_put 30000 (jL_put 30000 τ 97 (nI a) (cV (jCf H c))) 97 (nI (a + 1)) (cV (jCs H c))) ρ (jSk S (jSd S - 1)) (tk (jSk S (jSd S - 1))) (D (jSk S (jSd S - 1))) := hA
      have h132 : p_cMac_workCase_132 (2 : Int32) (nI (jSk S (jSd S - 1) + 1)) (jL_put 30000 (jL_put 30000 τ 97 (nI a) (cV (jCf H c))) 97 (nI (a + 1)) (cV (jCs H c))) = some τ' := by
        unfold p_cMac_workCase_132
        rw [show p_cTre_part (nI (jSk S (jSd S - 1) + 1)) (2 : Int32) (jL_put 30000 (jL_put 30000 τ 97 (nI a) (cV (jCf H c))) 97 (nI (a + 1)) (cV (jCs H c))) = _ from c_kid (i := 2) hA' (by omega), Option.bind_some]
        show ((p_cMac_beginPart (nI (dC (D (jSk S (jSd S - 1))) 2 + 1)) (100 : Int32) _).bind _) = _
        rw [hb]; rfl
      have hsl : jI_at 1201 (τ.1 33) (nI (jSk S (jSd S - 1) + 1)) = nI (dS (D (jSk S (jSd S - 1)))) := by
        rw [jI_at_in (by omega) (by omega)]
        exact (hA.2.2.2.2.2.2.2.2.2.2.2.2.2.2.2.2.1 hk).2.2
      unfold p_cMac_workCase
      rw [if_pos (show ¬ nI 1 = 0 by decide), a1, htc, hn, if_pos (show nI (2 + 1) = (3 : Int32) from rfl), c_num, c_num, hc2, jL_at_in (by omega) (by omega), jL_at_in (by omega) (by omega), x1, x3, e2, hsl, nI_add, ha, show nI a + (1 : Int32) = nI (a + 1) from nI_add _ 1, h132]
      rfl
    · rw [r_goh s2 hd s3 k2 e3 hk12 e4 hA.2.2.2.2.2.1, hk, if_neg (show ¬ 28 ≤ 10 by omega), if_neg (by decide), if_neg (by decide), if_neg (by decide), if_neg (by decide), if_pos (show nI 10 = (10 : Int32) from rfl)]
      have r2' : p_r_begin (nI (dC (D (jSk S (jSd S - 1))) 2)) (nI (jFb H (jSf S (jSd S - 1)))) (-1) (jx_l (jx_l (jx_i ρ 163 (jSd S - 1) (nI (rstg (dK (D (jSk S (jSd S - 1)))) 100))) 150 a (rV (jCf H c))) 150 (a + 1) (rV (jCs H c))) = some ρ' := r2
      rw [er2] at r2'
      have r2'' : p_r_begin (nI (dC (D (jSk S (jSd S - 1))) 2)) (nI (jFb H (jSf S (jSd S - 1)))) (-1) (jx_l (jx_l (jx_i ρ 163 (jSd S - 1) (2 : Int32)) 150 a (rV (jCf H c))) 150 (a + 1) (rV (jCs H c))) = some ρ' := r2'
      obtain ⟨g1, g2, _⟩ := hA.2.2.2.2.2.2.2.2.2.2.2.2.2.2.2.2.1 hk
      have h153 : ∀ σ : jx_S, σ.1 116 (jSk S (jSd S - 1)) = nI (dC (D (jSk S (jSd S - 1))) 2) → p_r_workChoice_153 (nI (jSk S (jSd S - 1))) (nI (jFb H (jSf S (jSd S - 1)))) (0 : Int32) σ = p_r_begin (nI (dC (D (jSk S (jSd S - 1))) 2)) (nI (jFb H (jSf S (jSd S - 1)))) (-1) σ := fun σ q => by
        unfold p_r_workChoice_153 p_r_workChoice_174
        rw [if_pos rfl, nI_clamp (show jSk S (jSd S - 1) < 2 ^ 31 by omega), if_neg hni2, q]
        cases p_r_begin (nI (dC (D (jSk S (jSd S - 1))) 2)) (nI (jFb H (jSf S (jSd S - 1)))) (-1) σ <;> rfl
      unfold p_r_go_168 p_r_workChoice p_r_workChoice_93
      rw [nI_clamp (show jSd S - 1 < 2 ^ 31 by omega), if_neg hni, e5, hsg1, er1, if_pos (show ¬ nI 1 = 0 by decide), if_neg hni, if_neg (show ¬ ¬ nI 1 = (1 : Int32) from fun z => z rfl), if_neg hni, nI_clamp (show jSk S (jSd S - 1) < 2 ^ 31 by omega)]
      rw [if_neg hni2, h112, if_pos (show ¬ nI 10 = (7 : Int32) by decide), a2, htr, hn, if_pos (show ¬ nI 2 = (1 : Int32) by decide), if_neg hni2]
      rw [s_i_ne (show (112 : Nat) ≠ 163 by decide), h112, if_neg (show ¬ ¬ nI 10 = (10 : Int32) from fun z => z rfl), if_neg (show ¬ ¬ (0 : Int32) = 0 from fun z => z rfl), if_neg hni2, r_num, hc2, if_neg (nI_in (show c < 3000 by omega) (by omega)), s_i_ne (show (117 : Nat) ≠ 163 by decide), s_i_ne (show (118 : Nat) ≠ 163 by decide), g1, g2, nI_add, nI_add, ha, show jFb H (jSf S (jSd S - 1)) + (dS (D (jSk S (jSd S - 1))) + 1) = a + 1 by omega, if_neg (nI_in (show a < 30000 by omega) (by omega)), if_neg hni2, if_neg (nI_in (show c < 3000 by omega) (by omega)), if_neg (nI_in (show a + 1 < 30000 by omega) (by omega)), nI_clamp (show a < 2 ^ 31 by omega), nI_clamp (show a + 1 < 2 ^ 31 by omega), nI_clamp (show c < 2 ^ 31 by omega)]
      show ((p_r_workChoice_153 (nI (jSk S (jSd S - 1))) (nI (jFb H (jSf S (jSd S - 1)))) 0 (jx_l (jx_l (jx_i ρ 163 (jSd S - 1) (2 : Int32)) 150 a (ρ.2 155 c)) 150 (a + 1) (ρ.2 156 c))).bind _) = _
      rw [x2, x4, h153 (jx_l (jx_l (jx_i ρ 163 (jSd S - 1) (2 : Int32)) 150 a (rV (jCf H c))) 150 (a + 1) (rV (jCs H c))) h116, r2'']; rfl
    · rcases r3 with r3 | ⟨H', S', an', r3, r4⟩
      · exact Or.inl r3
      · exact Or.inr ⟨H', S', 0, an', st + 1, r3, by omega⟩
