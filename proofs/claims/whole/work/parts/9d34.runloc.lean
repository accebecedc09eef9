/-! RUNS, 34: ticks: a local. -/
theorem loc_ty {F : Nat} {pN bN : Nat → Nat} {ty : Nat → Nat → Nat} {f : Nat} {W : Nat → Nat} {d : jDs} {k : Nat} (h : okT F pN bN ty f W d k) (hK : dK d = 28) (hm : dM d = 0) : W k = ty f (dS d) := by
  unfold okT at h
  rcases h with h | h | h | h | h | h | h | h | h | h
  · omega
  · omega
  · omega
  · omega
  · omega
  · omega
  · omega
  · omega
  · have := h.2.2.1
    rw [hm] at this
    unfold tyL at this
    rw [if_pos rfl] at this
    exact this.symm
  · omega
theorem c_loc {τ : jx_S} {k a sg i : Nat} {v : aV} (hv7 : v.1 < 6) (hs : v_cMac_frame τ + jI_at 1201 (τ.1 33) (nI (k + 1)) = nI a) (ha : a < 30000) (h97 : τ.2 97 a = cV v) (hi : v.1 = 3 → v.2 = nI i ∧ i < 3000) : p_cMac_workLocal (nI (k + 1)) (nI 0) τ = if v.1 = 3 then (if ¬ τ.1 93 i = nI 2 then (if ¬ τ.1 93 i = nI 1 then ((p_cMac_beginPutOff (nI i) (jI_put 250 τ 79 (τ.1 8 11 - 1) 1)).bind fun q => some q) else some (jx_i τ 8 14 2)) else ((p_cMac_finish (τ.2 95 i) τ).bind fun q => some q)) else ((p_cMac_finish (cV v) τ).bind fun q => some q) := by
  unfold p_cMac_workLocal
  rw [hs, jL_at_in ha (by omega), h97, if_pos (show ¬ nI 0 = (1 : Int32) by decide), c_num]
  have ht : v_cHea_tagOf (cV v) τ = nI (v.1 + 1) := c_tag (t := v.1) (by omega) v.2 τ
  rw [ht]
  by_cases z : v.1 = 3
  · obtain ⟨h1, h2⟩ := hi z
    rw [if_pos z, z, if_pos (show nI (3 + 1) = (4 : Int32) from rfl), h1, jI_at_in h2 (by omega), jL_at_in h2 (by omega)]
    rfl
  · rw [if_neg z, if_neg (show ¬ nI (v.1 + 1) = (4 : Int32) from fun q => z (by have := (nI_eq (b := 4) (by omega) (by omega)).1 q; omega))]
theorem r_loc {ρ : jx_S} {t i : Nat} {v : aV} (hv7 : v.1 < 6) (ht : t < 251) (h163 : ρ.1 163 t = nI 0) (hi : v.1 = 3 → v.2 = nI i ∧ i < 3000) : p_r_workLocal (nI t) (rV v) ρ = if v.1 = 3 then (if ¬ ρ.1 153 i = nI 2 then (if ¬ ρ.1 153 i = nI 1 then ((p_r_begin (ρ.1 151 i) (ρ.1 152 i) (nI i) (jx_i (jx_i ρ 153 i 1) 163 t 1)).bind fun q => some q) else some (jx_i ρ 106 87 2)) else ((p_r_finish (ρ.2 154 i) ρ).bind fun q => some q)) else ((p_r_finish (rV v) ρ).bind fun q => some q) := by
  have hni : ¬ (nI t < 0 ∨ 251 ≤ t) := fun z => by
    rcases z with z | z
    · exact nI_pos (by omega) z
    · omega
  unfold p_r_workLocal
  rw [nI_clamp (show t < 2 ^ 31 by omega), if_neg hni, h163, if_pos (show ¬ nI 0 = (1 : Int32) by decide)]
  have ht : v_r_tagOf (rV v) ρ = nI v.1 := r_tag (t := v.1) (by omega) v.2 ρ
  rw [ht, r_num]
  by_cases z : v.1 = 3
  · obtain ⟨h1, h2⟩ := hi z
    have hni3 : ¬ (nI i < 0 ∨ 3000 ≤ i) := fun z => by
      rcases z with z | z
      · exact nI_pos (by omega) z
      · omega
    rw [if_pos z, z, if_pos (show nI 3 = (3 : Int32) from rfl), h1, nI_clamp (show i < 2 ^ 31 by omega)]
    simp only [if_neg hni3, if_neg hni]
    rfl
  · rw [if_neg z, if_neg (show ¬ nI v.1 = (3 : Int32) from fun q => z ((nI_eq (b := 3) (by omega) (by omega)).1 q))]
theorem tick_loc {E : jEn} {G : jGh} {F : Nat} {nS pN bN lN' : Nat → Nat} {ty : Nat → Nat → Nat} {W : Nat → Nat} {D : Nat → jDs} {tk LO : Nat → Nat} {sl sp : Nat → Nat → Nat} {H : jHp} {S : jSt} {pd : Nat} {an : aV} {bt fc st lm go : Nat} {τ ρ : jx_S} (h : RUN E G F nS pN bN lN' ty W D tk LO sl sp H S pd an bt fc st lm go τ ρ) (hd : 0 < jSd S) (hk : dK (D (jSk S (jSd S - 1))) = 28) (hm : dM (D (jSk S (jSd S - 1))) = 0) : ∃ τ' ρ', tk1 τ = some τ' ∧ p_r_go_0_s ρ = some (.inl ρ') ∧ NX E G F nS pN bN lN' ty W D tk LO sl sp S bt fc st lm go 1 τ' ρ' := by
  obtain ⟨e1, e2, hse, hF, hN, ⟨e3, e4, e5⟩, s1, s2, s3, k2, hsg, hk12⟩ := top_of h hd
  have hsg01 : jSg S (jSd S - 1) = 0 ∨ jSg S (jSd S - 1) = 1 := by
    have h5 := hse.2.2.2.2.1
    unfold stgOK at h5
    omega
  obtain ⟨hA, hT, _, _, _, _, _, _, n28, _⟩ := id hN
  have hWk := loc_ty hT hk hm
  obtain ⟨m1, m2⟩ := n28 hk
  have hb := hse.2.2.1 _ m2
  have hfe := (h.1.2.2.2.2.1.1.2 _ hse.1.1).2.1
  have hfe0 := h.1.2.2.2.2.1.1.1
  obtain ⟨l1, l2⟩ := h.1.2.1.2.2.2.2.2.2 _ hse.1.1 _ m1 hb
  have hvt := h.1.2.2.2.2.1.2.2.1.1 _ hse.1.1 _ m1 hb
  rw [← hWk] at hvt
  have hsl : v_cMac_frame τ + jI_at 1201 (τ.1 33) (nI (jSk S (jSd S - 1) + 1)) = nI (jFb H (jSf S (jSd S - 1)) + dS (D (jSk S (jSd S - 1)))) := by
    rw [e2, jI_at_in (by omega) (by omega), (hA.2.2.2.2.2.2.2.2.2.2.2.2.2.1 hk).2, nI_add]
  have hni2 : ¬ (nI (jSk S (jSd S - 1)) < 0 ∨ 3000 ≤ jSk S (jSd S - 1)) := fun z => by
    rcases z with z | z
    · exact nI_pos (by omega) z
    · omega
  have hwo : tk1 τ = p_cMac_workLocal (nI (jSk S (jSd S - 1) + 1)) (nI (jSg S (jSd S - 1))) τ := by
    rw [e1, c_wo hA hsg, if_neg (by omega), hk, if_neg (by decide), if_neg (by decide), if_neg (by decide), if_neg (by decide), if_neg (by decide), if_neg (by decide), if_neg (by decide), if_pos (show nI 28 = (28 : Int32) from rfl), jI_at_in (by omega) (by omega), (hA.2.2.2.2.2.2.2.2.2.2.2.2.1 (by omega)).2.1, hm, if_pos (show nI 0 ≤ (0 : Int32) by decide)]
    cases p_cMac_workLocal (nI (jSk S (jSd S - 1) + 1)) (nI (jSg S (jSd S - 1))) τ <;> rfl
  generalize hag : jFb H (jSf S (jSd S - 1)) + dS (D (jSk S (jSd S - 1))) = a at *
  generalize hvg : jLv H (jSf S (jSd S - 1)) (dS (D (jSk S (jSd S - 1)))) = v at *
  have ha : a < 30000 := by omega
  have hgo : p_r_go_0_s ρ = (p_r_workLocal (nI (jSd S - 1)) (rV v) ρ).bind fun q => some (.inl q) := by
    rw [r_goh s2 hd s3 k2 e3 hk12 e4 hA.2.2.2.2.2.1, hk, if_pos (show 28 ≤ 28 by omega), if_pos (show nI 1 = (1 : Int32) from rfl)]
    unfold p_r_workName
    rw [nI_clamp (show jSk S (jSd S - 1) < 2 ^ 31 by omega), if_neg hni2, (hA.2.2.2.2.2.2.2.2.2.2.2.2.1 (by omega)).1, hm, if_neg (show ¬ ¬ nI 0 = 0 from fun z => z rfl), if_neg hni2, (hA.2.2.2.2.2.2.2.2.2.2.2.2.2.1 hk).1, if_neg (nI_pos (by omega)), if_neg hni2, nI_add, hag, if_neg (nI_in ha (by omega)), nI_clamp (show a < 2 ^ 31 by omega), l2]
    cases p_r_workLocal (nI (jSd S - 1)) (rV v) ρ <;> rfl
  rw [hwo, hgo]
  clear hwo hgo
  have hWk2 := hse.2.1
  have hz := h.2.1.2.2.2.2
  rcases hsg01 with hsg0 | hsg1
  · have hpd := pd_0 h hd hsg0
    subst hpd
    have hpop := mea_pop (st := st) (lm := lm) hd
    have hms := mea_set (S := S) (st := st) (lm := lm) (sg := 1) hd
    rw [hsg0] at hpop hms
    have hr0 : remS 0 = 18 ∧ remS 1 = 17 := ⟨rfl, rfl⟩
    have er0 : rstg (dK (D (jSk S (jSd S - 1)))) 0 = 0 := by unfold rstg; rw [if_neg (by omega), if_neg (by omega)]
    have er1 : rstg (dK (D (jSk S (jSd S - 1)))) 1 = 1 := by unfold rstg; rw [if_neg (by omega), if_neg (by omega)]
    rw [hsg0, er0] at e5
    have hpn := h.1.2.2.2.2.1.2.1.1
    have hcase : (v.1 < 3) ∨ (v.1 = 3 ∧ ∃ i, i < jPn H ∧ v.2 = nI i ∧ W (jPk H i) = W (jSk S (jSd S - 1))) := by
      rcases hvt with q | q | q | q | q | q
      · exact Or.inl (by omega)
      · exact Or.inl (by omega)
      · exact Or.inl (by omega)
      · exact Or.inr q
      · omega
      · omega
    have hk0 : keptS D S (jSd S - 1) = 0 := by unfold keptS; exact kept_n (by omega)
    rw [hsg0]
    rcases hcase with hv3 | ⟨hv3, i, hi, hvi, hWi⟩
    · rw [c_loc (i := 0) (sg := 0) (by omega) hsl ha l1 (fun q => by omega), r_loc (i := 0) (by omega) (by omega) e5 (fun q => by omega), if_neg (by omega), if_neg (by omega)]
      obtain ⟨ρ', f1, f2, f3⟩ := run_fin (RU1_of h.1) hd hz hk0 hv3 hvt
      exact ⟨_, ρ', by rw [f1]; rfl, by rw [f2]; rfl, Or.inr ⟨H, sPop S, _, v, st, f3, by omega⟩⟩
    · rw [c_loc (i := i) (sg := 0) (by omega) hsl ha l1 (fun q => ⟨hvi, by omega⟩), r_loc (i := i) (by omega) (by omega) e5 (fun q => ⟨hvi, by omega⟩), if_pos hv3, if_pos hv3]
      obtain ⟨⟨u1, u2⟩, ⟨u3, u4⟩, ⟨u5, u6⟩, u7, _⟩ := h.1.2.1.1.2.2 i hi
      rw [if_neg (by omega)] at u6
      rw [u5, u6]
      obtain ⟨b1, b2, b3, b4, b5, b6, b7⟩ := h.1.2.2.2.2.1.2.1.2 i hi
      rcases (show jPs H i = 0 ∨ jPs H i = 1 ∨ jPs H i = 2 by omega) with z | z | z
      · rw [z, if_pos (show ¬ nI 0 = nI 2 by decide), if_pos (show ¬ nI 0 = nI 2 by decide), if_pos (show ¬ nI 0 = nI 1 by decide), if_pos (show ¬ nI 0 = nI 1 by decide)]
        have hR := RU0_stg (sg := 1) (RU1_of h.1) hd (by omega) (fun _ q => absurd q (by omega)) (Or.inr (Or.inl ⟨hk, hm, rfl⟩)) (by
          rw [hsg0]; unfold unus
          rw [if_neg (by omega), if_neg (by omega), if_neg (by omega), if_neg (by omega)]; omega) (fun _ => by omega)
        obtain ⟨τ2, ρ2, r1, r2, r3⟩ := beg_po (i := i) (τ' := jI_put 3000 (cStg τ (jSd S) 1) 93 (nI i) 1) (ρ' := jx_i (jx_i ρ 153 i 1) 163 (jSd S - 1) 1) hR hz hi z (by
          rw [s_p_eq, jI_up_in (by omega) (by omega)]; rfl) (fun r hr => s_p_ne hr) rfl (by
          unfold rStg
          rw [s_i_ne (by decide), s_i_eq, s_i_ne (by decide)]; rfl) (fun r hr => by
          unfold rStg
          rw [er1]
          by_cases y : r = 163
          · subst y
            rw [s_i_eq, s_i_eq, s_i_ne (by decide)]; rfl
          · rw [s_i_ne y, s_i_ne y, s_i_ne hr]) rfl (fun _ => ⟨⟨by rw [set_at]; omega, fun _ _ => ⟨by omega, by rw [Nat.add_sub_cancel]; exact hvg.trans (Prod.ext hv3 hvi)⟩, fun q => absurd ⟨hk, hm⟩ q⟩, by
            rw [set_at]
            show W (jPk H i) = xtyp W D (jSk S (jSd S - 1)) 1
            unfold xtyp
            rw [if_pos (Or.inr hk)]
            exact hWi⟩) (fun q => by
            have : jSd S = 0 := q
            omega)
        have r1' : p_cMac_beginPutOff (nI i) (jI_put 250 τ 79 (τ.1 8 11 - 1) 1) = some τ2 := by
          unfold p_cMac_beginPutOff
          rw [s1, show nI (jSd S) - (1 : Int32) = nI (jSd S - 1) from nI_sub (b := 1) (by omega), s_p_ne (show (89 : Nat) ≠ 79 by decide), s_p_ne (show (91 : Nat) ≠ 79 by decide), jI_at_in (by omega) (by omega), jI_at_in (by omega) (by omega), u1, u3]
          have r1'' : p_cMac_begin (nI (jPk H i + 1)) (nI (jFb H (jPf H i))) (jI_put 3000 (jI_put 250 τ 79 (nI (jSd S - 1)) 1) 93 (nI i) 1) = some τ2 := r1
          rw [r1'']; rfl
        refine ⟨τ2, ρ2, by rw [r1']; rfl, ?_, ?_⟩
        · rw [u2, u4, r2]; rfl
        · rcases r3 with r3 | ⟨H', S', an', r3, r4⟩
          · exact Or.inl r3
          · exact Or.inr ⟨H', S', 0, an', st + 1, r3, by omega⟩
      · rw [z, if_pos (show ¬ nI 1 = nI 2 by decide), if_pos (show ¬ nI 1 = nI 2 by decide), if_neg (show ¬ ¬ nI 1 = nI 1 from fun q => q rfl), if_neg (show ¬ ¬ nI 1 = nI 1 from fun q => q rfl)]
        exact ⟨_, _, rfl, rfl, Or.inl ⟨H, EN_now h.1 2 (by omega) (by omega)⟩⟩
      · rw [z, if_neg (show ¬ ¬ nI 2 = nI 2 from fun q => q rfl), if_neg (show ¬ ¬ nI 2 = nI 2 from fun q => q rfl), (u7 z).1, (u7 z).2]
        obtain ⟨ρ', f1, f2, f3⟩ := run_fin (RU1_of h.1) hd hz hk0 (b6 z).1 (by rw [← hWi]; exact (b6 z).2)
        exact ⟨_, ρ', by rw [f1]; rfl, by rw [f2]; rfl, Or.inr ⟨H, sPop S, _, _, st, f3, by omega⟩⟩
  · have hpop := mea_pop (st := st) (lm := lm) hd
    rw [hsg1] at hpop
    have hr0 : remS 1 = 17 := rfl
    have er1 : rstg (dK (D (jSk S (jSd S - 1)))) 1 = 1 := by unfold rstg; rw [if_neg (by omega), if_neg (by omega)]
    rw [hsg1, er1] at e5
    obtain ⟨a1, a2⟩ := h.2.2 (Or.inr (by omega))
    obtain ⟨u1, u2, u3⟩ : SW W D H S (jSd S - 1) pd ∧ an.1 < 3 ∧ VT F pN bN ty W H (xtyp W D (jSk S (jSd S - 1)) (jSg S (jSd S - 1))) an := by
      rcases h.2.1.2.1 hd with q | q
      · omega
      · exact q
    obtain ⟨hp0, hlv⟩ := u1.2.1 hk hm
    rw [hvg] at hlv
    obtain ⟨i, rfl⟩ : ∃ i, pd = i + 1 := ⟨pd - 1, by omega⟩
    rw [Nat.add_sub_cancel] at hlv
    obtain ⟨g1, g2, g3⟩ := h.2.1.2.2.1 (by omega)
    rw [Nat.add_sub_cancel] at g2 g3
    have hpn := h.1.2.2.2.2.1.2.1.1
    have hxt : xtyp W D (jSk S (jSd S - 1)) (jSg S (jSd S - 1)) = W (jSk S (jSd S - 1)) := if_pos (Or.inr hk)
    rw [hxt] at u3
    have hR := RU0_set (τ' := jx_i (jI_put 3000 (jL_put 3000 τ 95 (nI i) (cV an)) 93 (nI i) 2) 9 13 (τ.1 9 13 + 1)) h.1 g1 g2 u2 g3 h.2.1.2.2.2.1 (by
      rw [s_i_ne (by decide), s_p_eq, jI_up_in (by omega) (by omega)]; rfl) (fun r q1 q2 => by
      rw [s_i_ne q2, s_p_ne q1]; rfl) (fun j hj => by
      rw [s_i_eq, u_ne hj, s_p_ne (by decide)]; rfl) (by rw [s_i_eq, u_eq rfl]) (fun r hr => by
      show (jL_put 3000 τ 95 (nI i) (cV an)).2 r = _
      rw [s_q_ne hr]) (by
      show (jL_put 3000 τ 95 (nI i) (cV an)).2 95 = _
      rw [s_q_eq, jL_up_in (by omega) (by omega)])
    obtain ⟨ρ', f1, f2, f3⟩ := run_fin (v := an) (RU1_of hR) hd (BZ_set hz) (by unfold keptS; exact kept_n (by omega)) u2 u3
    refine ⟨_, ρ', ?_, ?_, Or.inr ⟨_, sPop S, _, an, st, f3, by omega⟩⟩
    · unfold p_cMac_workLocal p_cHea_settle
      rw [hsg1, if_neg (show ¬ ¬ nI 1 = (1 : Int32) from fun q => q rfl), hsl, jL_at_in ha (by omega), l1, c_num, hlv, Option.bind_some, a1]
      show ((p_cMac_finish (τ.2 8 15) (jx_i (jI_put 3000 (jL_put 3000 τ 95 (nI i) (cV an)) 93 (nI i) 2) 9 13 (τ.1 9 13 + 1))).bind _) = _
      rw [a1, f1]; rfl
    · have hni : ¬ (nI (jSd S - 1) < 0 ∨ 251 ≤ jSd S - 1) := fun z => by
        rcases z with z | z
        · exact nI_pos (by omega) z
        · omega
      unfold p_r_workLocal
      rw [nI_clamp (show jSd S - 1 < 2 ^ 31 by omega), if_neg hni, e5, if_neg (show ¬ ¬ nI 1 = (1 : Int32) from fun q => q rfl), a2, f2]; rfl
