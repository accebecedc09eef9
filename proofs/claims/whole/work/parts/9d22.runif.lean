/-! RUNS, 22: ticks: if; the first stage of a case. -/
theorem c_bp {τ : jx_S} {dp b sg : Nat} {x : Int32} (h11 : τ.1 8 11 = nI dp) (hd : 0 < dp) (hf : v_cMac_frame τ = nI b) : p_cMac_beginPart x (nI sg) τ = p_cMac_begin x (nI b) (cStg τ dp sg) := by
  unfold p_cMac_beginPart
  rw [h11, show nI dp - (1 : Int32) = nI (dp - 1) from nI_sub (b := 1) (by omega)]
  have e : v_cMac_frame (jI_put 250 τ 79 (nI (dp - 1)) (nI sg)) = nI b := by
    rw [← hf]
    unfold v_cMac_frame
    simp (disch := first | assumption | decide | omega) only [nI_lit, cT_lt, cF_lt, cT_le, cF_le, cT_eq, cF_eq, nF_le, mF_eq, mG_eq, mT_lt, eq_self, nI_clamp, nI_add, Nat.add_zero, nI_sub, s_i_ne, s_i_eq, s_i_2, s_l_1, s_l_ne, s_l_eq, s_p_ne, s_p_eq, s_p_2, s_q_1, s_q_ne, s_q_eq, u_ne, u_eq, v_ne, v_eq, w_ne, w_eq, jI_at_in, jL_at_in, false_or, or_false, true_or, or_true, true_and, and_true, false_and, and_false, not_true_eq_false, not_false_eq_true, ↓reduceIte, Option.bind_some, Option.map_some]
  rw [e]
  show ((p_cMac_begin x (nI b) (cStg τ dp sg)).bind fun q => some q) = _
  cases p_cMac_begin x (nI b) (cStg τ dp sg) <;> rfl
theorem set_at {S : jSt} {sg : Nat} : jSg (sSet S sg) (jSd (sSet S sg) - 1) = sg := if_pos rfl
/-- what a choice is -/
theorem ch_ty {F : Nat} {pN bN : Nat → Nat} {ty : Nat → Nat → Nat} {f : Nat} {W : Nat → Nat} {d : jDs} {k : Nat} (h : okT F pN bN ty f W d k) (hK : dK d = 7 ∨ dK d = 10) : dM d = 3 ∧ W k < 2 ∧ W (dC d 0) = (if dK d = 7 then 0 else 1) ∧ W (dC d 1) = W k ∧ W (dC d 2) = W k := by
  unfold okT at h
  rcases h with h | h | h | h | h | h | ⟨a, b, c, e, f, g⟩ | ⟨a, b, c, e, f, g⟩ | h | h
  · omega
  · omega
  · omega
  · omega
  · omega
  · omega
  · rw [if_pos a]; exact ⟨b, c, e, f, g⟩
  · rw [if_neg (by omega)]; exact ⟨b, c, e, f, g⟩
  · omega
  · omega
theorem tick_ch0 {E : jEn} {G : jGh} {F : Nat} {nS pN bN lN' : Nat → Nat} {ty : Nat → Nat → Nat} {W : Nat → Nat} {D : Nat → jDs} {tk LO : Nat → Nat} {sl sp : Nat → Nat → Nat} {H : jHp} {S : jSt} {pd : Nat} {an : aV} {bt fc st lm go : Nat} {τ ρ : jx_S} (h : RUN E G F nS pN bN lN' ty W D tk LO sl sp H S pd an bt fc st lm go τ ρ) (hd : 0 < jSd S) (hk : dK (D (jSk S (jSd S - 1))) = 7 ∨ dK (D (jSk S (jSd S - 1))) = 10) (hsg0 : jSg S (jSd S - 1) = 0) : ∃ τ' ρ', tk1 τ = some τ' ∧ p_r_go_0_s ρ = some (.inl ρ') ∧ NX E G F nS pN bN lN' ty W D tk LO sl sp S bt fc st lm go 1 τ' ρ' := by
  obtain ⟨e1, e2, hse, hF, hN, ⟨e3, e4, e5⟩, s1, s2, s3, k2, hsg, hk12⟩ := top_of h hd
  have hpd := pd_0 h hd hsg0
  subst hpd
  obtain ⟨hA, hT, _⟩ := id hN
  obtain ⟨t1, t2, t3, t4, t5⟩ := ch_ty hT hk
  have hun : unus (dK (D (jSk S (jSd S - 1)))) (dM (D (jSk S (jSd S - 1)))) 1 = 1 := by unfold unus; rw [if_neg (by omega), if_neg (by omega)]
  have hun0 : unus (dK (D (jSk S (jSd S - 1)))) (dM (D (jSk S (jSd S - 1)))) 0 = 0 := by unfold unus; rw [if_neg (by omega), if_neg (by omega)]
  have hR := RU0_stg (sg := 1) (RU1_of h.1) hd (by omega) (fun _ q => absurd q (by omega)) (Or.inr (Or.inr (Or.inr (Or.inr (Or.inl ⟨by omega, Or.inl rfl⟩))))) (by rw [hsg0, hun, hun0]; omega) (fun _ => by omega)
  obtain ⟨τ', ρ', r1, r2, r3⟩ := part_beg (i := 0) hR hd h.2.1.2.2.2.2 (show 0 < dM (D (jSk S (jSd S - 1))) by omega) (by rw [set_at]; omega) (fun i' q => by
      rw [set_at] at q
      have q' : unus (dK (D (jSk S (jSd S - 1)))) (dM (D (jSk S (jSd S - 1)))) 1 ≤ i' := q
      omega) (show W (dC (D (jSk S (jSd S - 1))) 0) < 2 by rw [t3]; split <;> omega) (by
      rw [set_at]
      show W (dC (D (jSk S (jSd S - 1))) 0) = xtyp W D (jSk S (jSd S - 1)) 1
      unfold xtyp
      rw [if_neg (by omega), if_neg (by omega), if_neg (by omega), t3]
      rcases hk with q | q
      · rw [if_pos q, if_neg (by omega)]
      · rw [if_neg (by omega), if_pos q]) (show dK (D (jSk S (jSd S - 1))) ≠ 28 by omega) (fun s q => by
      have q' : bnd (dK (D (jSk S (jSd S - 1)))) 0 (dS (D (jSk S (jSd S - 1)))) s := q
      unfold bnd at q'; omega) (fun x q1 q2 => hse.2.2.2.2.2.1 0 (by rw [hsg0, hun0]; omega) (by omega) x q1 q2)
  have hni : ¬ (nI (jSd S - 1) < 0 ∨ 251 ≤ jSd S - 1) := fun z => by
    rcases z with z | z
    · exact nI_pos (by omega) z
    · omega
  have hni2 : ¬ (nI (jSk S (jSd S - 1)) < 0 ∨ 3000 ≤ jSk S (jSd S - 1)) := fun z => by
    rcases z with z | z
    · exact nI_pos (by omega) z
    · omega
  have hms := mea_set (S := S) (st := st) (lm := lm) (sg := 1) hd
  rw [hsg0] at hms
  have hr0 : remS 0 = 18 ∧ remS 1 = 17 := ⟨rfl, rfl⟩
  refine ⟨τ', ρ', ?_, ?_, ?_⟩
  · rw [e1, c_wo hA hsg, hsg0, if_neg (by omega)]
    have hkid0 := c_kid (i := 0) hA (by omega)
    have hb : p_cMac_beginPart (nI (dC (D (jSk S (jSd S - 1))) 0 + 1)) (1 : Int32) τ = some τ' := (c_bp (sg := 1) s1 hd e2).trans r1
    rcases hk with q | q
    · rw [q, if_neg (by decide), if_neg (by decide), if_pos (show nI 7 = (7 : Int32) from rfl)]
      unfold p_cMac_workIf
      rw [if_neg (show ¬ ¬ nI 0 = 0 from fun z => z rfl), show p_cTre_part (nI (jSk S (jSd S - 1) + 1)) (0 : Int32) τ = _ from hkid0, Option.bind_some]
      show ((((p_cMac_beginPart (nI (dC (D (jSk S (jSd S - 1))) 0 + 1)) (1 : Int32) τ).bind _)).bind _) = _
      rw [hb]; rfl
    · rw [q, if_neg (by decide), if_neg (by decide), if_neg (by decide), if_pos (show nI 10 = (10 : Int32) from rfl)]
      unfold p_cMac_workCase
      rw [if_neg (show ¬ ¬ nI 0 = 0 from fun z => z rfl), show p_cTre_part (nI (jSk S (jSd S - 1) + 1)) (0 : Int32) τ = _ from hkid0, Option.bind_some]
      show ((((p_cMac_beginPart (nI (dC (D (jSk S (jSd S - 1))) 0 + 1)) (1 : Int32) τ).bind _)).bind _) = _
      rw [hb]; rfl
  · rw [r_goh s2 hd s3 k2 e3 hk12 e4 hA.2.2.2.2.2.1]
    have er : rstg (dK (D (jSk S (jSd S - 1)))) 0 = 0 := by unfold rstg; rw [if_neg (by omega), if_neg (by omega)]
    have er1 : rstg (dK (D (jSk S (jSd S - 1)))) 1 = 1 := by unfold rstg; rw [if_neg (by omega), if_neg (by omega)]
    have hw : p_r_workChoice (nI (jSd S - 1)) (nI (jSk S (jSd S - 1))) (nI (jFb H (jSf S (jSd S - 1)))) ρ = some ρ' := by
      unfold p_r_workChoice
      rw [nI_clamp (show jSd S - 1 < 2 ^ 31 by omega), if_neg hni, e5, hsg0, er, if_neg (fun z => z rfl), if_neg hni, nI_clamp (show jSk S (jSd S - 1) < 2 ^ 31 by omega), if_neg hni2, hA.2.2.2.2.2.2.2.2.2.1 (by omega)]
      have r2' : p_r_begin (nI (dC (D (jSk S (jSd S - 1))) 0)) (nI (jFb H (jSf S (jSd S - 1)))) (-1) (jx_i ρ 163 (jSd S - 1) (nI (rstg (dK (D (jSk S (jSd S - 1)))) 1))) = some ρ' := r2
      rw [er1] at r2'
      have r2'' : p_r_begin (nI (dC (D (jSk S (jSd S - 1))) 0)) (nI (jFb H (jSf S (jSd S - 1)))) (-1) (jx_i ρ 163 (jSd S - 1) (1 : Int32)) = some ρ' := r2'
      rw [r2'']; rfl
    rcases hk with q | q
    · rw [q, if_neg (show ¬ 28 ≤ 7 by omega), if_neg (by decide), if_neg (by decide), if_neg (by decide), if_pos (show nI 7 = (7 : Int32) from rfl)]
      unfold p_r_go_168
      rw [hw]; rfl
    · rw [q, if_neg (show ¬ 28 ≤ 10 by omega), if_neg (by decide), if_neg (by decide), if_neg (by decide), if_neg (by decide), if_pos (show nI 10 = (10 : Int32) from rfl)]
      unfold p_r_go_168
      rw [hw]; rfl
  · rcases r3 with r3 | ⟨H', S', an', r3, r4⟩
    · exact Or.inl r3
    · exact Or.inr ⟨H', S', 0, an', st + 1, r3, by omega⟩
theorem tick_if1 {E : jEn} {G : jGh} {F : Nat} {nS pN bN lN' : Nat → Nat} {ty : Nat → Nat → Nat} {W : Nat → Nat} {D : Nat → jDs} {tk LO : Nat → Nat} {sl sp : Nat → Nat → Nat} {H : jHp} {S : jSt} {pd : Nat} {an : aV} {bt fc st lm go : Nat} {τ ρ : jx_S} (h : RUN E G F nS pN bN lN' ty W D tk LO sl sp H S pd an bt fc st lm go τ ρ) (hd : 0 < jSd S) (hk : dK (D (jSk S (jSd S - 1))) = 7) (hsg1 : jSg S (jSd S - 1) = 1) : ∃ τ' ρ', tk1 τ = some τ' ∧ p_r_go_0_s ρ = some (.inl ρ') ∧ NX E G F nS pN bN lN' ty W D tk LO sl sp S bt fc st lm go 1 τ' ρ' := by
  obtain ⟨e1, e2, hse, hF, hN, ⟨e3, e4, e5⟩, s1, s2, s3, k2, hsg, hk12⟩ := top_of h hd
  obtain ⟨hA, hT, _⟩ := id hN
  obtain ⟨t1, t2, t3, t4, t5⟩ := ch_ty hT (Or.inl hk)
  obtain ⟨u1, u2, u3⟩ : SW W D H S (jSd S - 1) pd ∧ an.1 < 3 ∧ VT F pN bN ty W H (xtyp W D (jSk S (jSd S - 1)) (jSg S (jSd S - 1))) an := by
    rcases h.2.1.2.1 hd with q | q
    · omega
    · exact q
  have hpd : pd = 0 := u1.2.2 (fun q => by omega)
  subst hpd
  obtain ⟨a1, a2⟩ := h.2.2 (Or.inr (by omega))
  have hun : unus (dK (D (jSk S (jSd S - 1)))) (dM (D (jSk S (jSd S - 1)))) 100 = 3 := by unfold unus; rw [if_pos rfl]; exact t1
  have hun1 : unus (dK (D (jSk S (jSd S - 1)))) (dM (D (jSk S (jSd S - 1)))) 1 = 1 := by unfold unus; rw [if_neg (by omega), if_neg (by omega)]
  have hR := RU0_stg (sg := 100) (RU1_of h.1) hd (by omega) (fun _ q => absurd q (by omega)) (Or.inr (Or.inr (Or.inr (Or.inr (Or.inl ⟨by omega, Or.inr rfl⟩))))) (by rw [hsg1, hun, hun1]; omega) (fun _ => by omega)
  have hpart : ∀ i, i = 1 ∨ i = 2 → _ := fun i hi => part_beg (i := i) hR hd h.2.1.2.2.2.2 (show i < dM (D (jSk S (jSd S - 1))) by omega) (by rw [set_at]; omega) (fun i' q => by
      rw [set_at] at q
      have q' : unus (dK (D (jSk S (jSd S - 1)))) (dM (D (jSk S (jSd S - 1)))) 100 ≤ i' := q
      omega) (show W (dC (D (jSk S (jSd S - 1))) i) < 2 by rcases hi with rfl | rfl <;> omega) (by
      rw [set_at]
      show W (dC (D (jSk S (jSd S - 1))) i) = xtyp W D (jSk S (jSd S - 1)) 100
      unfold xtyp
      rw [if_pos (Or.inl rfl)]
      rcases hi with rfl | rfl
      · exact t4
      · exact t5) (show dK (D (jSk S (jSd S - 1))) ≠ 28 by omega) (fun s q => by
      have q' : bnd (dK (D (jSk S (jSd S - 1)))) i (dS (D (jSk S (jSd S - 1)))) s := q
      unfold bnd at q'; omega) (fun x q1 q2 => hse.2.2.2.2.2.1 i (by rw [hsg1, hun1]; omega) (by omega) x q1 q2)
  have hni : ¬ (nI (jSd S - 1) < 0 ∨ 251 ≤ jSd S - 1) := fun z => by
    rcases z with z | z
    · exact nI_pos (by omega) z
    · omega
  have hni2 : ¬ (nI (jSk S (jSd S - 1)) < 0 ∨ 3000 ≤ jSk S (jSd S - 1)) := fun z => by
    rcases z with z | z
    · exact nI_pos (by omega) z
    · omega
  have hms := mea_set (S := S) (st := st) (lm := lm) (sg := 100) hd
  rw [hsg1] at hms
  have hr0 : remS 1 = 17 ∧ remS 100 = 1 := ⟨rfl, rfl⟩
  have er1 : rstg (dK (D (jSk S (jSd S - 1)))) 1 = 1 := by unfold rstg; rw [if_neg (by omega), if_neg (by omega)]
  have er2 : rstg (dK (D (jSk S (jSd S - 1)))) 100 = 2 := by unfold rstg; rw [if_pos rfl, if_neg (by omega)]
  have hfin : ∀ i, (i = 1 ∨ i = 2) → (an.2 = 0 ↔ i = 2) → ∃ τ' ρ', tk1 τ = some τ' ∧ p_r_go_0_s ρ = some (.inl ρ') ∧ NX E G F nS pN bN lN' ty W D tk LO sl sp S bt fc st lm go 1 τ' ρ' := fun i hi hiff => by
    obtain ⟨τ', ρ', r1, r2, r3⟩ := hpart i hi
    refine ⟨τ', ρ', ?_, ?_, ?_⟩
    · rw [e1, c_wo hA hsg, hsg1, if_neg (by omega), hk, if_neg (by decide), if_neg (by decide), if_pos (show nI 7 = (7 : Int32) from rfl)]
      have hb : p_cMac_beginPart (nI (dC (D (jSk S (jSd S - 1))) i + 1)) (100 : Int32) τ = some τ' := (c_bp (sg := 100) s1 hd e2).trans r1
      have h42 : p_cMac_workIf_42 (nI i) (nI (jSk S (jSd S - 1) + 1)) τ = some τ' := by
        unfold p_cMac_workIf_42
        rw [c_kid hA (by omega), Option.bind_some]
        show (((p_cMac_beginPart (nI (dC (D (jSk S (jSd S - 1))) i + 1)) (100 : Int32) τ).bind _)) = _
        rw [hb]; rfl
      unfold p_cMac_workIf
      rw [if_pos (show ¬ nI 1 = 0 by decide), a1, c_num]
      rcases hi with z | z
      · subst z
        rw [if_neg (fun q => by have := hiff.1 q; omega), show (1 : Int32) = nI 1 from rfl, h42]; rfl
      · subst z
        rw [if_pos (hiff.2 rfl), show (2 : Int32) = nI 2 from rfl, h42]; rfl
    · rw [r_goh s2 hd s3 k2 e3 hk12 e4 hA.2.2.2.2.2.1, hk, if_neg (show ¬ 28 ≤ 7 by omega), if_neg (by decide), if_neg (by decide), if_neg (by decide), if_pos (show nI 7 = (7 : Int32) from rfl)]
      have h112 : ρ.1 112 (jSk S (jSd S - 1)) = nI 7 := by
        have := hA.2.2.2.2.2.1
        rw [hk] at this
        exact this
      have r2' : p_r_begin (nI (dC (D (jSk S (jSd S - 1))) i)) (nI (jFb H (jSf S (jSd S - 1)))) (-1) (jx_i ρ 163 (jSd S - 1) (nI (rstg (dK (D (jSk S (jSd S - 1)))) 100))) = some ρ' := r2
      rw [er2] at r2'
      have h115 : ρ.1 115 (jSk S (jSd S - 1)) = nI (dC (D (jSk S (jSd S - 1))) 1) := hA.2.2.2.2.2.2.2.2.2.2.1 (by omega) (by omega)
      have h116 : ρ.1 116 (jSk S (jSd S - 1)) = nI (dC (D (jSk S (jSd S - 1))) 2) := hA.2.2.2.2.2.2.2.2.2.2.2.1 (by omega) (by omega)
      unfold p_r_go_168 p_r_workChoice p_r_workChoice_93 p_r_workChoice_153 p_r_workChoice_174
      rw [nI_clamp (show jSd S - 1 < 2 ^ 31 by omega), if_neg hni, e5, hsg1, er1, if_pos (show ¬ nI 1 = 0 by decide), if_neg hni, if_neg (show ¬ ¬ nI 1 = (1 : Int32) from fun z => z rfl), if_neg hni, nI_clamp (show jSk S (jSd S - 1) < 2 ^ 31 by omega)]
      simp only [if_neg hni2, h112, s_i_ne (show (112 : Nat) ≠ 163 by decide), s_i_ne (show (115 : Nat) ≠ 163 by decide), s_i_ne (show (116 : Nat) ≠ 163 by decide), h115, h116]
      rw [if_neg (show ¬ ¬ nI 7 = (7 : Int32) from fun z => z rfl), a2, r_num]
      rcases hi with z | z
      · subst z
        rw [if_neg (fun q => by have := hiff.1 q; omega), if_pos (show ¬ nI 7 = (10 : Int32) by decide), if_neg (show ¬ (1 : Int32) = 0 by decide), show (2 : Int32) = nI 2 from rfl, r2']; rfl
      · subst z
        rw [if_pos (hiff.2 rfl), if_pos (show ¬ nI 7 = (10 : Int32) by decide), if_pos trivial, show (2 : Int32) = nI 2 from rfl, r2']; rfl
    · rcases r3 with r3 | ⟨H', S', an', r3, r4⟩
      · exact Or.inl r3
      · exact Or.inr ⟨H', S', 0, an', st + 1, r3, by omega⟩
  by_cases z : an.2 = 0
  · exact hfin 2 (Or.inr rfl) ⟨fun _ => rfl, fun _ => z⟩
  · exact hfin 1 (Or.inl rfl) ⟨fun q => absurd q z, fun q => by omega⟩
