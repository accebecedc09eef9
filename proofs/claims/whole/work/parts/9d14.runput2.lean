/-! RUNS, 14: both put every expression off alike. -/
theorem c_poh {E : jEn} {τ ρ : jx_S} {c tk w n : Nat} {d : jDs} (hA : AN E τ ρ c tk d) (h0 : τ.1 8 14 = 0) (hw : w ≤ 30) : p_cMac_putOff (n + 1) (nI (c + 1)) (nI w) τ = if dK d = 2 ∨ dK d = 13 then some (v_cMac_literal (nI (c + 1)) τ, τ) else if dK d = 28 ∧ dM d = 0 then some (jL_at 30000 (τ.2 97) (v_cMac_frame τ + jI_at 1201 (τ.1 33) (nI (c + 1))), τ) else p_cMac_putOff_91 (p_cMac_putOff n) (nI (c + 1)) (nI w) τ := by
  obtain ⟨a1, a2, a3, a4, a5, a6, a7, a8, a9, a10, a11, a12, a13, _⟩ := hA
  show p_cMac_putOff_b (p_cMac_putOff n) (nI (c + 1)) (nI w) τ = _
  unfold p_cMac_putOff_b p_cMac_putOff_38
  rw [h0, if_neg (fun z => z rfl), if_pos (show nI w ≤ (30 : Int32) from (nI_le hw (by omega) : nI w ≤ nI 30)), jI_at_in (by omega) (by omega), a5]
  by_cases k2 : dK d = 2
  · rw [k2, if_pos (show nI 2 = (2 : Int32) from rfl), if_pos (Or.inl rfl)]
  · rw [if_neg (show ¬ nI (dK d) = (2 : Int32) from fun z => k2 ((nI_eq (b := 2) (by omega) (by omega)).1 z))]
    by_cases k13 : dK d = 13
    · rw [if_pos (Or.inr k13), k13, if_neg (show ¬ ¬ nI 13 = (13 : Int32) from fun z => z rfl)]
    · rw [if_pos (show ¬ nI (dK d) = (13 : Int32) from fun z => k13 ((nI_eq (b := 13) (by omega) (by omega)).1 z)), if_neg (show ¬ (dK d = 2 ∨ dK d = 13) by omega)]
      by_cases k28 : dK d = 28
      · rw [if_neg (show ¬ ¬ nI (dK d) = (28 : Int32) by rw [k28]; exact fun z => z rfl), jI_at_in (by omega) (by omega), (a13 (by omega)).2.1]
        by_cases m0 : dM d = 0
        · rw [m0, if_neg (fun z => z rfl), if_pos ⟨k28, rfl⟩, jI_at_in (by omega) (by omega)]
        · rw [if_pos (nI_ne0 (by omega) (by omega)), if_neg (fun z => m0 z.2)]
      · rw [if_pos (show ¬ nI (dK d) = (28 : Int32) from fun z => k28 ((nI_eq (b := 28) (by omega) (by omega)).1 z)), if_neg (fun z => k28 z.1)]
theorem PRe_kid {E : jEn} {G : jGh} {F : Nat} {nS pN bN lN' : Nat → Nat} {ty : Nat → Nat → Nat} {W : Nat → Nat} {D : Nat → jDs} {tk LO : Nat → Nat} {sl sp : Nat → Nat → Nat} {H : jHp} {f φ d c i : Nat} {τ ρ : jx_S} (hN : RNd E G F nS pN bN lN' ty W D tk LO sl sp f τ ρ c) (h : PRe E G F nS pN bN lN' ty W D tk LO sl sp H φ d c) (hff : jFf H φ = f) (hk : 28 ≤ dK (D c)) (hi : i < dM (D c)) (hlo : LO (dC (D c) i) ≤ dC (D c) i) : PRe E G F nS pN bN lN' ty W D tk LO sl sp H φ d (dC (D c) i) := by
  obtain ⟨hA, _, _, _, _, _, _, _, _, _, ⟨l1, l2, l3, l4⟩, hkid, _⟩ := hN
  obtain ⟨k1, k2, k3, k4⟩ := hkid i hi
  have k5 := hA.2.2.1 i hi
  obtain ⟨p1, p2, p3, p4, p5⟩ := h
  have hLO : LO c ≤ LO (dC (D c) i) := by
    rw [k2]
    by_cases z : i = 0
    · rw [if_pos z]; exact Nat.le_refl _
    · rw [if_neg z]; have := (hkid (i - 1) (by omega)).1; omega
  refine ⟨p1, by rw [hff]; omega, by omega, fun s hs => ?_, fun c' q1 q2 => p5 c' (by omega) (by omega)⟩
  rcases k3 s hs with q | q
  · exact p4 s q
  · unfold bnd at q; omega
theorem put2 {E : jEn} {G : jGh} {F : Nat} {nS pN bN lN' : Nat → Nat} {ty : Nat → Nat → Nat} {W : Nat → Nat} {D : Nat → jDs} {tk LO : Nat → Nat} {sl sp : Nat → Nat → Nat} {φ d : Nat} : ∀ n c w q H gd τ ρ, gA G c < n → w + gA G c ≤ 30 → q + 8 * (gA G c + 1) ≤ 2900 → PO E G F nS pN bN lN' ty W D tk LO sl sp H φ gd q τ ρ → PRe E G F nS pN bN lN' ty W D tk LO sl sp H φ d c → OUT E G F nS pN bN lN' ty W D tk LO sl sp H φ gd q c τ ρ (p_cMac_putOff n (nI (c + 1)) (nI w) τ) := by
  intro n
  induction n with
  | zero => intro c w q H gd τ ρ h; omega
  | succ n ih =>
    intro c w q H gd τ ρ hn hw hq hP hpre
    obtain ⟨p1, p2, p3, p4, p5⟩ := id hpre
    have hRP := hP.1
    have hHI := hP.2.2.2.2.2.2.1
    obtain ⟨hF1, hF2, _⟩ := hHI.1.2 φ p1
    have hfe := hHI.1.1
    have hFn := hRP.2.2 (jFf H φ) hF1
    have hN := hFn.2.2.2.2 c p2 p3
    obtain ⟨hA, hT, hW14, h37, h124, hlit, hlet, hcas, h28, hgv, hlo, hkid, _⟩ := id hN
    have hc12 := hA.1
    have h8 : τ.1 8 14 = 0 := hP.2.2.2.2.2.1.1
    have hfr := hP.2.2.2.2.2.1.2.2.1
    rw [c_poh hA h8 (by omega)]
    by_cases k1 : dK (D c) = 2 ∨ dK (D c) = 13
    · obtain ⟨a, a1, a2, a3, a4⟩ := po_lit hN hRP.2.1 k1
      rw [if_pos k1, a3]
      refine Or.inl ⟨a, τ, ρ, rfl, a4 _, suc_leaf hP ?_⟩
      rw [a2]
      rcases (show a.1 = 0 ∨ a.1 = 1 by omega) with z | z
      · exact Or.inl ⟨z, z⟩
      · exact Or.inr (Or.inl ⟨z, z⟩)
    · rw [if_neg k1]
      by_cases k2 : dK (D c) = 28 ∧ dM (D c) = 0
      · obtain ⟨s1, s2⟩ := h28 k2.1
        have hbd := p4 _ s2
        obtain ⟨c1, c2⟩ := hP.2.2.2.2.1.2.2 φ p1 (dS (D c)) s1 hbd
        obtain ⟨e1, e2⟩ := po_loc hN k2.1 k2.2 (show jFb H φ + dS (D c) < 30000 by omega) c1 c2 hfr
        rw [if_pos k2, e1]
        refine Or.inl ⟨jLv H φ (dS (D c)), τ, ρ, rfl, e2, suc_leaf hP ?_⟩
        have hvt := hHI.2.2.1.1 φ p1 (dS (D c)) s1 hbd
        have hWc : W c = ty (jFf H φ) (dS (D c)) := by
          unfold okT at hT
          rcases hT with h | h | h | h | h | h | h | h | h | h
          · omega
          · omega
          · omega
          · omega
          · omega
          · omega
          · omega
          · omega
          · have := h.2.2.1
            rw [k2.2] at this
            unfold tyL at this
            rw [if_pos rfl] at this
            exact this.symm
          · omega
        rw [hWc]; exact hvt
      · rw [if_neg k2]
        have hkk : dK (D c) ≠ 2 ∧ dK (D c) ≠ 13 ∧ (dK (D c) = 28 → 0 < dM (D c)) := ⟨fun z => k1 (Or.inl z), fun z => k1 (Or.inr z), fun z => by
          have : ¬ dM (D c) = 0 := fun y => k2 ⟨z, y⟩
          omega⟩
        have hPu := hP.2.1
        by_cases hW : W c < 2
        · have hpn := hHI.2.1.1
          by_cases hfull : jPn H = 3000
          · obtain ⟨e1, e2⟩ := po_full (b := jFb H φ) hN hkk hW (by rw [hPu.1, hfull]) (by rw [hPu.2.1, hfull]) (p_cMac_putOff n) (nI w)
            rw [e1]
            exact Or.inr ⟨0, _, 0, _, rfl, e2, ful_now hP⟩
          · obtain ⟨e1, e2⟩ := po_add hN hkk hW (show jPn H < 3000 by omega) hPu.1 hPu.2.1 hfr (p_cMac_putOff n) (nI w)
            rw [e1]
            exact Or.inl ⟨_, _, _, rfl, e2, suc_add hP p1 p2 p3 hc12 hW p4 p5 hkk.2.2 (by omega)⟩
        · have hk28 := ot_kind hT (show 2 ≤ W c by omega)
          by_cases hm : dM (D c) = 0
          · have k29 : dK (D c) = 29 := by
              have := hkk.2.2
              omega
            obtain ⟨e1, e2, e3, e4⟩ := po_fun (b := jFb H φ) hN hRP.1 k29 hm (by omega) (p_cMac_putOff n) (nI w)
            rw [e1]
            exact Or.inl ⟨_, τ, ρ, rfl, e2, suc_leaf hP (Or.inr (Or.inr (Or.inr (Or.inr (Or.inl ⟨rfl, by omega, _, e3, rfl, e4⟩)))))⟩
          · obtain ⟨g, t, g1, g2, g3, g4, g5, g6⟩ := fun_info hRP hF1 rfl hN hHI p1 p4 (by omega)
            have hnA := hHI.2.2.2.2.2.1
            have hnG := hHI.2.2.2.2.1
            obtain ⟨rPa1, rPa2, rPa3⟩ := hP.2.2.1
            obtain ⟨rGo1, rGo2, rGo3⟩ := hP.2.2.2.1
            have hv29 : dK (D c) = 29 → bfV D H φ c = (4, nI (dG (D c))) := fun z => if_pos z
            have hv28c : dK (D c) = 28 → jFb H φ + dS (D c) < 30000 ∧ (τ.2 97 (jFb H φ + dS (D c)) = cV (bfV D H φ c) ∧ ρ.2 150 (jFb H φ + dS (D c)) = rV (bfV D H φ c)) := fun z => by
              obtain ⟨s1, s2⟩ := h28 z
              have hbd := p4 _ s2
              have hb : bfV D H φ c = jLv H φ (dS (D c)) := if_neg (by omega)
              rw [hb]
              exact ⟨by omega, hP.2.2.2.2.1.2.2 φ p1 (dS (D c)) s1 hbd⟩
            have ec := c_part1 hN (by omega) (by omega) g6 rGo1 rPa1 hnA (by omega) hfr hv29 (fun z => ⟨(hv28c z).1, (hv28c z).2.1⟩) (p_cMac_putOff n) (nI w)
            have er := r_part1 (b := jFb H φ) hN (by omega) (by omega) g6 rGo2 rPa2 hP.2.2.2.2.2.1.2.2.2 (by omega) hnA hnG hv29 (fun z => ⟨(hv28c z).1, (hv28c z).2.2⟩)
            rw [ec]
            by_cases hroom : jAn H + dM (D c) ≤ 6000
            · rw [if_pos hroom] at er ⊢
              have hcs12 : ∀ i, i < dM (D c) → dC (D c) i < 1200 := fun i hi => by have := hA.2.2.1 i hi; omega
              obtain ⟨ρ', e1, e2, e3, e4, e5⟩ := r_push (ρ := jx_i (jx_i (jx_l ρ 157 (jGn H) (rV (bfV D H φ c))) 158 (jGn H) (nI (jAn H))) 159 (jGn H) (nI (dM (D c)))) (m := dM (D c)) (q := q) (nA := jAn H) (nG := jGn H) (cs := dC (D c)) g6 (by omega) hcs12 (fun i hi => by
                have h120 := (hA.2.2.2.2.2.2.2.2.2.2.2.2.1 (by omega)).2.2 i hi
                simp (disch := first | assumption | decide | omega) only [nI_lit, cT_lt, cF_lt, cT_le, cF_le, cT_eq, cF_eq, nF_le, mF_eq, mG_eq, mT_lt, eq_self, nI_clamp, nI_add, Nat.add_zero, nI_sub, s_i_ne, s_i_eq, s_i_2, s_l_1, s_l_ne, s_l_eq, s_p_ne, s_p_eq, s_p_2, s_q_1, s_q_ne, s_q_eq, u_ne, u_eq, v_ne, v_eq, w_ne, w_eq, jI_at_in, jL_at_in, false_or, or_false, true_or, or_true, true_and, and_true, false_and, and_false, not_true_eq_false, not_false_eq_true, ↓reduceIte, Option.bind_some, Option.map_some]; exact h120) (by simp (disch := first | assumption | decide | omega) only [nI_lit, cT_lt, cF_lt, cT_le, cF_le, cT_eq, cF_eq, nF_le, mF_eq, mG_eq, mT_lt, eq_self, nI_clamp, nI_add, Nat.add_zero, nI_sub, s_i_ne, s_i_eq, s_i_2, s_l_1, s_l_ne, s_l_eq, s_p_ne, s_p_eq, s_p_2, s_q_1, s_q_ne, s_q_eq, u_ne, u_eq, v_ne, v_eq, w_ne, w_eq, jI_at_in, jL_at_in, false_or, or_false, true_or, or_true, true_and, and_true, false_and, and_false, not_true_eq_false, not_false_eq_true, ↓reduceIte, Option.bind_some, Option.map_some]; exact hP.2.2.2.2.2.1.2.2.2) (by simp (disch := first | assumption | decide | omega) only [nI_lit, cT_lt, cF_lt, cT_le, cF_le, cT_eq, cF_eq, nF_le, mF_eq, mG_eq, mT_lt, eq_self, nI_clamp, nI_add, Nat.add_zero, nI_sub, s_i_ne, s_i_eq, s_i_2, s_l_1, s_l_ne, s_l_eq, s_p_ne, s_p_eq, s_p_2, s_q_1, s_q_ne, s_q_eq, u_ne, u_eq, v_ne, v_eq, w_ne, w_eq, jI_at_in, jL_at_in, false_or, or_false, true_or, or_true, true_and, and_true, false_and, and_false, not_true_eq_false, not_false_eq_true, ↓reduceIte, Option.bind_some, Option.map_some]; exact rGo2) (by simp (disch := first | assumption | decide | omega) only [nI_lit, cT_lt, cF_lt, cT_le, cF_le, cT_eq, cF_eq, nF_le, mF_eq, mG_eq, mT_lt, eq_self, nI_clamp, nI_add, Nat.add_zero, nI_sub, s_i_ne, s_i_eq, s_i_2, s_l_1, s_l_ne, s_l_eq, s_p_ne, s_p_eq, s_p_2, s_q_1, s_q_ne, s_q_eq, u_ne, u_eq, v_ne, v_eq, w_ne, w_eq, jI_at_in, jL_at_in, false_or, or_false, true_or, or_true, true_and, and_true, false_and, and_false, not_true_eq_false, not_false_eq_true, ↓reduceIte, Option.bind_some, Option.map_some]; exact rPa2) hnA (by omega) (ρ.1 114 c) (fun z => hA.2.2.2.2.2.2.2.2.2.1 z)
              rw [e1] at er
              obtain ⟨hPp, hRF⟩ := PO_part hP g1 (show 1 ≤ dM (D c) by omega) g6 g2 hroom g3 e2 e3
              have hkid' : ∀ i, i < dM (D c) → LO c ≤ dC (D c) i ∧ LO (dC (D c) i) = (if i = 0 then LO c else dC (D c) (i - 1) + 1) ∧ LO (dC (D c) i) ≤ dC (D c) i ∧ dC (D c) i < c := fun i hi => by
                obtain ⟨y1, y2, _, _⟩ := hkid i hi
                have y3 := hA.2.2.1 i hi
                have hNi := hFn.2.2.2.2 (dC (D c) i) (by omega) (by omega)
                exact ⟨y1, y2, hNi.2.2.2.2.2.2.2.2.2.2.1.2.1, y3⟩
              have hFp : jFb (hPart H (bfV D H φ c) (dM (D c)) g (t + dM (D c))) φ = jFb H φ := rfl
              -- the list of what is to be put off, as the loop finds it
              have hsuc : ∀ u, simU gd (jx_i (jx_i (jx_i ρ' 106 101 (nI (q + dM (D c)))) 106 76 (nI (jAn H + dM (D c)))) 106 74 (nI (jGn H + 1))) u → (∃ τ', (∀ N, jx_loop (N + dM (D c) + 1) (c127 (p_cMac_putOff n)) (nI (c + 1), nI w, nI (dM (D c)), nI (jAn H), nI (jGn H), nI 0, cPart τ (jGn H) (jAn H) (dM (D c)) (bfV D H φ c)) = some (cV (5, nI (jGn H)), τ')) ∧ ASuc E G F nS pN bN lN' ty W D tk LO sl sp (hPart H (bfV D H φ c) (dM (D c)) g (t + dM (D c))) φ gd q c 0 (jAn H) (jGn H) (cPart τ (jGn H) (jAn H) (dM (D c)) (bfV D H φ c)) u τ') ∨ (∃ v τ', (∀ N, jx_loop (N + dM (D c) + 1) (c127 (p_cMac_putOff n)) (nI (c + 1), nI w, nI (dM (D c)), nI (jAn H), nI (jGn H), nI 0, cPart τ (jGn H) (jAn H) (dM (D c)) (bfV D H φ c)) = some (v, τ')) ∧ AFul LO D (hPart H (bfV D H φ c) (dM (D c)) g (t + dM (D c))) φ c 0 (cPart τ (jGn H) (jAn H) (dM (D c)) (bfV D H φ c)) u τ') := fun u hu => atoms2 (rec := p_cMac_putOff n) (w := nI w) (f := jFf H φ) (c := c) (m := dM (D c)) (φ := φ) (d := d) (q := q) (nA := jAn H) (nG := jGn H) (g := g) (t := t) rfl g6 (by omega) g5 hkid' (fun τ ρ hr => (hr.2.2 (jFf H φ) hF1).2.2.2.2 c p2 p3) (jFb H φ) (fun i hi H2 gd2 τ2 ρ2 hb2 hP2 hpre2 => by
                  have hga := (hkid i hi).2.2.2 (by omega)
                  rw [show nI w + (1 : Int32) = nI (w + 1) from (nI_succ w).symm]
                  exact ih (dC (D c) i) (w + 1) (q + (dM (D c) - 1 - i)) H2 gd2 τ2 ρ2 (by omega) (by omega) (by omega) hP2 hpre2) (dM (D c)) 0 (hPart H (bfV D H φ c) (dM (D c)) g (t + dM (D c))) gd (cPart τ (jGn H) (jAn H) (dM (D c)) (bfV D H φ c)) u rfl (Nat.zero_le _) hFp (by rw [Nat.sub_zero]; exact PO_sim hPp hu) (Nat.lt_succ_self _) (if_pos rfl) (if_pos rfl) (if_pos rfl) (if_pos rfl) (Nat.le_refl _) (fun x z1 z2 z => by have := hP.2.2.2.2.2.2.2 x z; omega) (fun k z1 z2 => by
                  obtain ⟨y1, y2⟩ := e5 k z2
                  rw [hu.1]
                  constructor
                  · simp (disch := first | assumption | decide | omega) only [nI_lit, cT_lt, cF_lt, cT_le, cF_le, cT_eq, cF_eq, nF_le, mF_eq, mG_eq, mT_lt, eq_self, nI_clamp, nI_add, Nat.add_zero, nI_sub, s_i_ne, s_i_eq, s_i_2, s_l_1, s_l_ne, s_l_eq, s_p_ne, s_p_eq, s_p_2, s_q_1, s_q_ne, s_q_eq, u_ne, u_eq, v_ne, v_eq, w_ne, w_eq, jI_at_in, jL_at_in, false_or, or_false, true_or, or_true, true_and, and_true, false_and, and_false, not_true_eq_false, not_false_eq_true, ↓reduceIte, Option.bind_some, Option.map_some]; exact y1
                  · simp (disch := first | assumption | decide | omega) only [nI_lit, cT_lt, cF_lt, cT_le, cF_le, cT_eq, cF_eq, nF_le, mF_eq, mG_eq, mT_lt, eq_self, nI_clamp, nI_add, Nat.add_zero, nI_sub, s_i_ne, s_i_eq, s_i_2, s_l_1, s_l_ne, s_l_eq, s_p_ne, s_p_eq, s_p_2, s_q_1, s_q_ne, s_q_eq, u_ne, u_eq, v_ne, v_eq, w_ne, w_eq, jI_at_in, jL_at_in, false_or, or_false, true_or, or_true, true_and, and_true, false_and, and_false, not_true_eq_false, not_false_eq_true, ↓reduceIte, Option.bind_some, Option.map_some]; exact y2) (fun k z1 z2 => PRe_kid hN ⟨p1, p2, p3, p4, p5⟩ rfl (by omega) z2 (hkid' k z2).2.2.1)
              have hQp : HQ H (hPart H (bfV D H φ c) (dM (D c)) g (t + dM (D c))) := ⟨rfl, rfl, rfl, fun _ _ => ⟨rfl, rfl⟩, fun i h1 h2 => by
                have h3 : i < jPn H := h2
                omega, ⟨Nat.le_add_right _ _, Nat.le_refl _⟩, hHI.2.1.1⟩
              have hlp : ∀ r, (jx_loop 100000000 (c127 (p_cMac_putOff n)) (nI (c + 1), nI w, nI (dM (D c)), nI (jAn H), nI (jGn H), 0, cPart τ (jGn H) (jAn H) (dM (D c)) (bfV D H φ c)) = some r) → ((jx_loop 100000000 (c127 (p_cMac_putOff n)) (nI (c + 1), nI w, nI (dM (D c)), nI (jAn H), nI (jGn H), 0, cPart τ (jGn H) (jAn H) (dM (D c)) (bfV D H φ c))).bind fun q2 => some (q2.1, q2.2)) = some r := fun r hr => by rw [hr, Option.bind_some]
              have h108 : 100000000 = (100000000 - dM (D c) - 1) + dM (D c) + 1 := by omega
              have hend : (fun x => gd x ∨ (jAn H + 0 ≤ x ∧ x < jAn H + dM (D c)) ∨ (jAn (hPart H (bfV D H φ c) (dM (D c)) g (t + dM (D c))) ≤ x ∧ x < jAn H)) = (fun x => gd x ∨ (jAn H + 0 ≤ x ∧ x < jAn H + dM (D c)) ∨ (jAn H + dM (D c) ≤ x ∧ x < jAn H)) := rfl
              rcases hsuc _ ⟨rfl, fun _ _ => rfl, fun _ _ => rfl⟩ with ⟨τ', f1, H0, _, _, _, f5, ρ0, st0, _, fP, _⟩ | ⟨v, τ', f1, _, _, f5, f6, _⟩
              · refine Or.inl ⟨(5, nI (jGn H)), τ', _, ?_, er, CPF_trans CPF_part f5, fun u hu => ?_⟩
                · refine hlp _ ?_
                  have := f1 (100000000 - dM (D c) - 1)
                  rw [← h108] at this
                  exact this
                · rcases hsuc u hu with ⟨τ2, y1, H', y2, y3, y4, y5, ρ2, st, l1, l2, l3, l4, l5, l6⟩ | ⟨v, τ2, y1, H', y3, y5, y6, _⟩
                  · have hτ : τ2 = τ' := by
                      have h1 := f1 0
                      rw [y1 0] at h1
                      exact (Prod.mk.inj (Option.some.inj h1)).2
                    subst hτ
                    have hAn : jAn H + dM (D c) ≤ jAn H' := y3.2.2.2.2.2.1.1
                    refine ⟨H', ρ2, st, ⟨HX_trans HX_part y2, HQ_trans hQp y3, y4, ?_⟩, l1, ?_, RPF_trans hRF (RPF_trans ⟨fun r _ => by rw [hu.1], fun j _ => by rw [hu.1], fun r hr => hu.2.1 r (fun z => hr (by rw [z]; decide))⟩ l3), l4, fun j hj => ?_, ?_⟩
                    · refine Or.inr (Or.inr (Or.inr (Or.inr (Or.inr ⟨rfl, by omega, jGn H, ?_, rfl, ?_⟩))))
                      · have : jGn H + 1 ≤ jGn H' := y2.2.2.1
                        omega
                      · obtain ⟨z1, z2, _, _⟩ := y2.2.2.2 (jGn H) (Nat.lt_succ_self _)
                        have w1 : jGg (hPart H (bfV D H φ c) (dM (D c)) g (t + dM (D c))) (jGn H) = g := if_pos rfl
                        have w2 : jGt (hPart H (bfV D H φ c) (dM (D c)) g (t + dM (D c))) (jGn H) = t + dM (D c) := if_pos rfl
                        rw [z1, z2, w1, w2]
                        exact g4
                    · have e : (fun x => gd x ∨ (jAn H ≤ x ∧ x < jAn H')) = (fun x => gd x ∨ (jAn H + 0 ≤ x ∧ x < jAn H + dM (D c)) ∨ (jAn (hPart H (bfV D H φ c) (dM (D c)) g (t + dM (D c))) ≤ x ∧ x < jAn H')) := by
                        funext x
                        have e1 : jAn (hPart H (bfV D H φ c) (dM (D c)) g (t + dM (D c))) = jAn H + dM (D c) := rfl
                        rw [e1]
                        refine propext ⟨fun z => ?_, fun z => ?_⟩
                        · rcases z with z | z
                          · exact Or.inl z
                          · by_cases y : x < jAn H + dM (D c)
                            · exact Or.inr (Or.inl (by omega))
                            · exact Or.inr (Or.inr (by omega))
                        · rcases z with z | z | z
                          · exact Or.inl z
                          · exact Or.inr (by omega)
                          · exact Or.inr (by omega)
                      rw [e]; exact l2
                    · obtain ⟨w1, w2⟩ := l5 j hj
                      obtain ⟨w3, w4⟩ := e4 j hj
                      rw [w1, w2, hu.1]
                      constructor
                      · simp (disch := first | assumption | decide | omega) only [nI_lit, cT_lt, cF_lt, cT_le, cF_le, cT_eq, cF_eq, nF_le, mF_eq, mG_eq, mT_lt, eq_self, nI_clamp, nI_add, Nat.add_zero, nI_sub, s_i_ne, s_i_eq, s_i_2, s_l_1, s_l_ne, s_l_eq, s_p_ne, s_p_eq, s_p_2, s_q_1, s_q_ne, s_q_eq, u_ne, u_eq, v_ne, v_eq, w_ne, w_eq, jI_at_in, jL_at_in, false_or, or_false, true_or, or_true, true_and, and_true, false_and, and_false, not_true_eq_false, not_false_eq_true, ↓reduceIte, Option.bind_some, Option.map_some]; rw [w3]; simp (disch := first | assumption | decide | omega) only [nI_lit, cT_lt, cF_lt, cT_le, cF_le, cT_eq, cF_eq, nF_le, mF_eq, mG_eq, mT_lt, eq_self, nI_clamp, nI_add, Nat.add_zero, nI_sub, s_i_ne, s_i_eq, s_i_2, s_l_1, s_l_ne, s_l_eq, s_p_ne, s_p_eq, s_p_2, s_q_1, s_q_ne, s_q_eq, u_ne, u_eq, v_ne, v_eq, w_ne, w_eq, jI_at_in, jL_at_in, false_or, or_false, true_or, or_true, true_and, and_true, false_and, and_false, not_true_eq_false, not_false_eq_true, ↓reduceIte, Option.bind_some, Option.map_some]
                      · simp (disch := first | assumption | decide | omega) only [nI_lit, cT_lt, cF_lt, cT_le, cF_le, cT_eq, cF_eq, nF_le, mF_eq, mG_eq, mT_lt, eq_self, nI_clamp, nI_add, Nat.add_zero, nI_sub, s_i_ne, s_i_eq, s_i_2, s_l_1, s_l_ne, s_l_eq, s_p_ne, s_p_eq, s_p_2, s_q_1, s_q_ne, s_q_eq, u_ne, u_eq, v_ne, v_eq, w_ne, w_eq, jI_at_in, jL_at_in, false_or, or_false, true_or, or_true, true_and, and_true, false_and, and_false, not_true_eq_false, not_false_eq_true, ↓reduceIte, Option.bind_some, Option.map_some]; rw [w4]; simp (disch := first | assumption | decide | omega) only [nI_lit, cT_lt, cF_lt, cT_le, cF_le, cT_eq, cF_eq, nF_le, mF_eq, mG_eq, mT_lt, eq_self, nI_clamp, nI_add, Nat.add_zero, nI_sub, s_i_ne, s_i_eq, s_i_2, s_l_1, s_l_ne, s_l_eq, s_p_ne, s_p_eq, s_p_2, s_q_1, s_q_ne, s_q_eq, u_ne, u_eq, v_ne, v_eq, w_ne, w_eq, jI_at_in, jL_at_in, false_or, or_false, true_or, or_true, true_and, and_true, false_and, and_false, not_true_eq_false, not_false_eq_true, ↓reduceIte, Option.bind_some, Option.map_some]
                    · rw [if_pos rfl] at l6; exact l6
                  · exfalso
                    have h1 := f1 0
                    rw [y1 0] at h1
                    have hτ := (Prod.mk.inj (Option.some.inj h1)).2
                    have h0 := fP.2.2.2.2.2.1.1
                    rw [← hτ, y6] at h0
                    revert h0; decide
              · refine Or.inr ⟨v, τ', _, _, ?_, er, CPF_trans CPF_part f5, f6, fun u hu => ?_⟩
                · refine hlp _ ?_
                  have := f1 (100000000 - dM (D c) - 1)
                  rw [← h108] at this
                  exact this
                · rcases hsuc u hu with ⟨τ2, y1, H', y2, y3, y4, y5, ρ2, st, l1, l2, _⟩ | ⟨v2, τ2, y1, H', y3, y5, y6, ρ2, st, l1, l2, l3, l4, l6⟩
                  · exfalso
                    have h1 := f1 0
                    rw [y1 0] at h1
                    have hτ := (Prod.mk.inj (Option.some.inj h1)).2
                    have h0 := l2.2.2.2.2.2.1.1
                    rw [hτ, f6] at h0
                    revert h0; decide
                  · have hτ : τ2 = τ' := by
                      have h1 := f1 0
                      rw [y1 0] at h1
                      exact (Prod.mk.inj (Option.some.inj h1)).2
                    subst hτ
                    refine ⟨H', ρ2, st, HQ_trans hQp y3, l1, l2, l3, RPF_trans hRF (RPF_trans ⟨fun r _ => by rw [hu.1], fun j _ => by rw [hu.1], fun r hr => hu.2.1 r (fun z => hr (by rw [z]; decide))⟩ l4), ?_⟩
                    rw [if_pos rfl] at l6; exact l6
            · rw [if_neg hroom] at er ⊢
              exact Or.inr ⟨0, _, 0, _, rfl, er, ful_now hP⟩
