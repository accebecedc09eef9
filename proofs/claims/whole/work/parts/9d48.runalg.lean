/-! RUNS, 48: the list is gone along: cell by cell. -/
theorem along_all {E : jEn} {G : jGh} {F : Nat} {nS pN bN lN' : Nat → Nat} {ty : Nat → Nat → Nat} {W : Nat → Nat} {D : Nat → jDs} {tk LO : Nat → Nat} {sl sp : Nat → Nat → Nat} {lm : Nat} : ∀ n H S pd an st go τ ρ, go + n = 50 → 0 < n → AL E G F nS pN bN lN' ty W D tk LO sl sp H S pd an 1 st lm go τ ρ → τ.1 8 17 = 0 → (∀ i, i < go → τ.1 73 i = ρ.1 167 i) → ∃ j τ' ρ', gks j τ τ' ∧ τ'.1 8 14 ≠ 0 ∧ j ≤ 18 * (lm - st) + 2 * n + 12 ∧ (∀ N, jx_loop (N + n + 1) rAl (rV an, ρ) = some ρ') ∧ ∃ H' go', FIN H' go' τ' ρ' := by
  intro n
  induction n with
  | zero => intro H S pd an st go τ ρ _ h; omega
  | succ n ih =>
    intro H S pd an st go τ ρ hgn _ hAL h17 hel
    have hd := hAL.2.1
    have ha3 := hAL.2.2.2.2.1
    obtain ⟨H1, τ1, x1, x2, x3, x4, x5, x6, x7, ⟨x8, x9, x10⟩, h14, h11⟩ := al_set hAL
    have h87 := x2.2.2.2.1.2.1
    have hk8 := x2.2.2.2.1.2.2.2.2.2.2.2.1
    have hk9 := x2.2.2.2.1.2.2.2.2.2.2.2.2
    have htc : v_cHea_tagOf (cV an) τ1 = nI (an.1 + 1) := c_tag (t := an.1) (by omega) an.2 τ1
    have htr : ∀ σ, v_r_tagOf (rV an) σ = nI an.1 := fun σ => r_tag (t := an.1) (by omega) an.2 σ
    have hcase : an.1 = 1 ∨ (an.1 = 2 ∧ ∃ c, c < jCn H1 ∧ an.2 = nI c) := by
      rcases x4 with q | q | q | q | q | q
      · omega
      · exact Or.inl q.1
      · exact Or.inr ⟨q.1, q.2.2⟩
      · omega
      · omega
      · omega
    rcases hcase with hn1 | ⟨hn2, c, hc, hc2⟩
    · -- nil
      refine ⟨1, jx_i (jI_put 10 τ1 71 (7 : Int32) (1 : Int32)) 8 14 (1 : Int32), jx_i ρ 106 96 1, ⟨_, h14, Or.inl ⟨h11, ?_⟩, rfl⟩, ?_, by omega, fun N => jx_loop_inr ?_, H1, go, ?_⟩
      · rw [x1]
        unfold p_cMac_goAlong_38 p_cMac_stepInto
        rw [x8, h17, if_neg (fun q => q rfl), x7, htc, hn1, if_neg (show ¬ nI (1 + 1) = (3 : Int32) by decide)]
        rfl
      · rw [s_i_eq, u_eq rfl]; decide
      · show p_r_goAlong_5_s (rV an) ρ = _
        unfold p_r_goAlong_5_s p_r_goAlong_96
        rw [h87, if_neg (fun q => q rfl), htr, hn1, if_pos (show ¬ nI 1 = (2 : Int32) by decide), if_neg (fun q => q rfl), if_neg (show ¬ ¬ nI 1 = (1 : Int32) from fun q => q rfl)]
        rfl
      · have e71 : (jI_put 10 τ1 71 (7 : Int32) (1 : Int32)).1 71 = upd (τ1.1 71) 7 (nI 1) := by
          rw [s_p_eq, show (7 : Int32) = nI 7 from rfl, jI_up_in (by omega) (by omega)]; rfl
        refine FIN_RU (nl := 1) x2 (by omega) (by omega) (fun i hi => ?_) (by rw [s_i_eq, u_eq rfl]) (fun j q1 q2 => by rw [s_i_ne (by decide), e71, u_ne q2]) (by rw [s_i_ne (by decide), e71, u_eq rfl]) (by rw [s_i_ne (by decide), s_p_ne (by decide)]) (fun j q1 q2 => by rw [s_i_eq, u_ne q2]) (by rw [s_i_eq, u_eq rfl]; rfl) (by rw [s_i_ne (by decide), e71, u_ne (by decide), s_i_eq, u_ne (by decide), hk8.1, hk9.1]) (by rw [s_i_ne (by decide)])
        rw [s_i_ne (by decide), s_p_ne (by decide), x10, s_i_ne (by decide)]; exact hel i hi
    · -- a cell
      obtain ⟨ce1, ce2, ce3⟩ := x2.2.1.2.1
      obtain ⟨⟨c85, c155⟩, c87, c156⟩ := ce3 c hc
      have hcn := x2.2.2.2.2.1.2.2.2.1.1
      obtain ⟨vf, vs⟩ := x2.2.2.2.2.1.2.2.2.1.2 c hc
      have hR2 : RU0 E G F nS pN bN lN' ty W D tk LO sl sp H1 S 0 an 0 0 st lm go (jx_i (jx_i τ1 8 17 (1 : Int32)) 8 16 (nI c)) ρ := RU0_out x2 hd (fun r hr => by rw [s_i_ne (fun q => hr (by rw [q]; decide)), s_i_ne (fun q => hr (by rw [q]; decide))]) (fun j hj => by rw [s_i_eq, u_ne (by omega), s_i_eq, u_ne (by omega)]) (fun j _ => by rw [s_i_ne (by decide), s_i_ne (by decide)]) (by rw [s_i_ne (by decide), s_i_ne (by decide)]; exact hk8.2.1) (fun _ _ => rfl) (fun _ _ => rfl) (fun _ _ => rfl) hk9.2.1 (fun _ _ => rfl)
      obtain ⟨j1, τ3, τ4, y, ρ4, f1, f2, f3, f4, f5⟩ := force_sim (T := 0) hR2 hd x3 (by omega) vf (by rw [s_i_eq, u_ne (by decide), s_i_eq, u_ne (by decide)]; exact x6)
      have t1 : p_cMac_goAlong τ = some τ3 := by
        rw [x1]
        unfold p_cMac_goAlong_38 p_cMac_stepInto
        rw [x8, h17, if_neg (fun q => q rfl), x7, htc, hn2, if_pos (show nI (2 + 1) = (3 : Int32) from rfl), c_num, hc2, jL_at_in (by omega) (by omega), c85, f1]
        rfl
      have hfr : ∀ k i, k ∉ ms_cMac_force → k ∉ ms_cMac_workOn → (k, i) ∉ fs_cMac_force → (k, i) ∉ fs_cMac_workOn → τ4.1 k i = (jx_i (jx_i τ1 8 17 (1 : Int32)) 8 16 (nI c)).1 k i := fun k i a1 a2 a3 a4 => ((tks_fr f2 k i a2 a4).1).trans (f_cMac_force _ _ _ jFr.rfl _ f1 k i a1 a3).1
      have hfr2 : ∀ k i, k ∉ ms_r_worked → (k, i) ∉ fs_r_worked → ρ4.1 k i = ρ.1 k i := fun k i a1 a3 => (f_r_worked _ _ _ jFr.rfl _ f3 k i a1 a3).1
      have e17 : τ4.1 8 17 = 1 := by
        rw [hfr 8 17 (by decide) (by decide) (by decide) (by decide), s_i_eq, u_ne (by decide), s_i_eq, u_eq rfl]
      have e16 : τ4.1 8 16 = nI c := by
        rw [hfr 8 16 (by decide) (by decide) (by decide) (by decide), s_i_eq, u_eq rfl]
      have e73 : ∀ i, i < go → τ4.1 73 i = ρ4.1 167 i := fun i hi => by
        rw [hfr 73 i (by decide) (by decide) (by simp [fs_cMac_force]) (by simp [fs_cMac_workOn]), hfr2 167 i (by decide) (by simp [fs_r_worked]), s_i_ne (by decide), s_i_ne (by decide), x10]
        exact hel i hi
      have hcnt : nI c < 0 ∨ 3000 ≤ (nI c).toNatClampNeg → False := nI_in (show c < 3000 by omega) (by omega)
      have hrh : p_r_goAlong_5_s (rV an) ρ = (if ¬ (ρ4.1 106 87) = 0 then (p_r_goAlong_93 (rV an) ρ4) else (if (ρ4.1 106 95) < 0 ∨ 50 ≤ ((ρ4.1 106 95)).toNatClampNeg then none else (if (50 : Int32) ≤ ((ρ4.1 106 95) + (1 : Int32)) then (p_r_goAlong_93 (rV an) (jx_i (jx_i ρ4 167 ((ρ4.1 106 95)).toNatClampNeg (y).toInt32) 106 95 ((ρ4.1 106 95) + (1 : Int32)))) else ((p_r_worked ((ρ4.2 156) c) (jx_i (jx_i ρ4 167 ((ρ4.1 106 95)).toNatClampNeg (y).toInt32) 106 95 ((ρ4.1 106 95) + (1 : Int32)))).bind fun q5 => (p_r_goAlong_93 q5.1 q5.2))))) := by
        unfold p_r_goAlong_5_s
        rw [h87, if_neg (fun q => q rfl), htr, hn2, if_neg (show ¬ ¬ nI 2 = (2 : Int32) from fun q => q rfl), hk9.2.1, if_neg (show ¬ (50 : Int32) ≤ nI go from (nI_ge (by omega) (by omega) : ¬ nI 50 ≤ nI go)), r_num, hc2, if_neg hcnt, nI_clamp (show c < 2 ^ 31 by omega), c155, f3, Option.bind_some, if_neg (show ¬ (nI c < 0 ∨ 3000 ≤ c) from fun z => by
          rcases z with z | z
          · exact nI_pos (by omega) z
          · omega)]
      rcases f5 with ⟨H', hEN⟩ | ⟨H2, S2, pd2, an2, st2, hA2, rfl, hst2, hcn2⟩
      · -- the end, within
        have h4 := hEN.1
        obtain ⟨en, q1, q2, q3, q4⟩ := h4
        refine ⟨1 + j1, τ4, jx_i ρ4 106 96 0, gks_add (a := 1) ⟨τ3, h14, Or.inl ⟨h11, t1⟩, rfl⟩ (gks_of f2), ?_, by omega, fun N => ?_, H', go, FIN_EN hEN (by omega) e73⟩
        · rw [q3]; exact nI_ne0 (by omega) (by omega)
        · rw [show N + (n + 1) + 1 = (N + n + 1) + 1 by omega, jx_loop_inl (s1 := (rV an, ρ4))]
          · exact jx_loop_inr (rAl_end q4 (by omega) q2)
          · show p_r_goAlong_5_s (rV an) ρ = _
            rw [hrh, q4, if_pos (nI_ne0 (by omega) (by omega))]; rfl
      · -- its number is told
        have hd2 := hA2.2.1
        obtain ⟨H3, τ5, y1, y2, y3, y4, y5, y6, y7, ⟨y8, y9, y10⟩, z14, z11⟩ := al_set hA2
        have g87 := y2.2.2.2.1.2.1
        have gk8 := y2.2.2.2.1.2.2.2.2.2.2.2.1
        have gk9 := y2.2.2.2.1.2.2.2.2.2.2.2.2
        rw [g87, if_neg (fun q => q rfl), gk9.2.1, if_neg (nI_in (show go < 50 by omega) (by omega)), nI_clamp (show go < 2 ^ 31 by omega), r_num, show nI go + (1 : Int32) = nI (go + 1) from (nI_succ go).symm] at hrh
        obtain ⟨de1, de2, de3⟩ := y2.2.1.2.1
        have hcn3 := y2.2.2.2.2.1.2.2.2.1.1
        have hc3 : c < jCn H3 := by omega
        obtain ⟨⟨d85, d155⟩, d87, d156⟩ := de3 c hc3
        obtain ⟨_, vs3⟩ := y2.2.2.2.2.1.2.2.2.1.2 c hc3
        have e71 : (jI_put 10 (jI_put 50 (jx_i τ5 8 17 (0 : Int32)) 73 (nI go) an2.2) 71 (6 : Int32) (nI (go + 1))).1 71 = upd (τ5.1 71) 6 (nI (go + 1)) := by
          rw [s_p_eq, show (6 : Int32) = nI 6 from rfl, jI_up_in (by omega) (by omega), s_p_ne (by decide), s_i_ne (by decide)]
        have e73b : (jI_put 10 (jI_put 50 (jx_i τ5 8 17 (0 : Int32)) 73 (nI go) an2.2) 71 (6 : Int32) (nI (go + 1))).1 73 = upd (τ4.1 73) go an2.2 := by
          rw [s_p_ne (by decide), s_p_eq, jI_up_in (by omega) (by omega), s_i_ne (by decide), y10]
        have hel2 : ∀ i, i < go + 1 → (jI_put 10 (jI_put 50 (jx_i τ5 8 17 (0 : Int32)) 73 (nI go) an2.2) 71 (6 : Int32) (nI (go + 1))).1 73 i = (jx_i (jx_i ρ4 167 go an2.2) 106 95 (nI (go + 1))).1 167 i := fun i hi => by
          rw [e73b, s_i_ne (by decide), s_i_eq]
          by_cases z : i = go
          · rw [u_eq z, u_eq z]
          · rw [u_ne z, u_ne z]; exact e73 i (by omega)
        have hR6 : RU0 E G F nS pN bN lN' ty W D tk LO sl sp H3 S2 0 an2 0 0 st2 lm (go + 1) (jI_put 10 (jI_put 50 (jx_i τ5 8 17 (0 : Int32)) 73 (nI go) an2.2) 71 (6 : Int32) (nI (go + 1))) (jx_i (jx_i ρ4 167 go an2.2) 106 95 (nI (go + 1))) := RU0_out y2 hd2 (fun r hr => by
            simp only [List.mem_cons, List.not_mem_nil, or_false, not_or] at hr
            rw [s_p_ne hr.2.1, s_p_ne hr.2.2, s_i_ne hr.1]) (fun j hj => by rw [s_p_ne (by decide), s_p_ne (by decide), s_i_eq, u_ne (by omega)]) (fun j hj => by rw [e71, u_ne hj]) (by rw [e71, u_eq rfl]) (fun _ _ => rfl) (fun r hr => by
            simp only [List.mem_cons, List.not_mem_nil, or_false, not_or] at hr
            rw [s_i_ne hr.1, s_i_ne hr.2]) (fun j hj => by rw [s_i_eq, u_ne hj, s_i_ne (by decide)]) (by rw [s_i_eq, u_eq rfl]) (fun _ _ => rfl)
        have t38 : p_cMac_goAlong τ4 = if ¬ nI (go + 1) = (50 : Int32) then p_cMac_force (cV (jCs H3 c)) (jI_put 10 (jI_put 50 (jx_i τ5 8 17 (0 : Int32)) 73 (nI go) an2.2) 71 (6 : Int32) (nI (go + 1))) else some (jx_i (jI_put 10 (jI_put 50 (jx_i τ5 8 17 (0 : Int32)) 73 (nI go) an2.2) 71 (6 : Int32) (nI (go + 1))) 8 14 1) := by
          rw [y1]
          unfold p_cMac_goAlong_38
          rw [y8, e17, if_pos (show ¬ (1 : Int32) = 0 by decide), show nI go + (1 : Int32) = nI (go + 1) from (nI_succ go).symm, y7, c_num, y9, e16, jL_at_in (by omega) (by omega), d87]
          split
          · cases p_cMac_force (cV (jCs H3 c)) (jI_put 10 (jI_put 50 (jx_i τ5 8 17 (0 : Int32)) 73 (nI go) an2.2) 71 (6 : Int32) (nI (go + 1))) <;> rfl
          · rfl
        by_cases z50 : go + 1 = 50
        · -- the 50th
          rw [if_neg (show ¬ ¬ nI (go + 1) = (50 : Int32) from fun q => q (by rw [z50]; rfl))] at t38
          rw [if_pos (show (50 : Int32) ≤ nI (go + 1) from (nI_le (by omega) (by omega) : nI 50 ≤ nI (go + 1)))] at hrh
          refine ⟨1 + (j1 + 1), _, jx_i (jx_i (jx_i ρ4 167 go an2.2) 106 95 (nI (go + 1))) 106 96 0, gks_add (a := 1) ⟨τ3, h14, Or.inl ⟨h11, t1⟩, rfl⟩ (gks_add (gks_of f2) ⟨_, z14, Or.inl ⟨z11, t38⟩, rfl⟩), ?_, by omega, fun N => ?_, H3, go + 1, ?_⟩
          · rw [s_i_eq, u_eq rfl]; decide
          · rw [show N + (n + 1) + 1 = (N + n + 1) + 1 by omega, jx_loop_inl (s1 := (rV an, jx_i (jx_i ρ4 167 go an2.2) 106 95 (nI (go + 1))))]
            · refine jx_loop_inr ?_
              show p_r_goAlong_5_s (rV an) (jx_i (jx_i ρ4 167 go an2.2) 106 95 (nI (go + 1))) = _
              unfold p_r_goAlong_5_s p_r_goAlong_96
              rw [hR6.2.2.2.1.2.1, if_neg (fun q => q rfl), htr, hn2, if_neg (show ¬ ¬ nI 2 = (2 : Int32) from fun q => q rfl), s_i_eq, u_eq rfl, if_pos (show (50 : Int32) ≤ nI (go + 1) from (nI_le (by omega) (by omega) : nI 50 ≤ nI (go + 1))), if_neg (fun q => q rfl), if_pos (show ¬ nI 2 = (1 : Int32) by decide)]
              rfl
            · exact hrh
          · have gk8' := hR6.2.2.2.1.2.2.2.2.2.2.2.1
            have gk9' := hR6.2.2.2.1.2.2.2.2.2.2.2.2
            refine FIN_RU (nl := 0) hR6 (by omega) (by omega) (fun i hi => ?_) (by rw [s_i_eq, u_eq rfl]) (fun j q1 q2 => by rw [s_i_ne (by decide)]) (by rw [s_i_ne (by decide)]; exact gk8'.2.2) (by rw [s_i_ne (by decide)]) (fun j q1 q2 => by rw [s_i_eq, u_ne q2]) (by rw [s_i_eq, u_eq rfl]; rfl) (by rw [s_i_ne (by decide), gk8'.1, s_i_eq, u_ne (by decide), gk9'.1]) (by rw [s_i_ne (by decide)])
            rw [s_i_ne (show (73 : Nat) ≠ 8 by decide), hel2 i hi, s_i_ne (show (167 : Nat) ≠ 106 by decide), s_i_ne (show (167 : Nat) ≠ 106 by decide), s_i_ne (show (167 : Nat) ≠ 106 by decide)]
        · -- its second part
          rw [if_pos (show ¬ nI (go + 1) = (50 : Int32) from fun q => z50 ((nI_eq (b := 50) (by omega) (by omega)).1 q))] at t38
          rw [if_neg (show ¬ (50 : Int32) ≤ nI (go + 1) from (nI_ge (by omega) (by omega) : ¬ nI 50 ≤ nI (go + 1))), d156] at hrh
          obtain ⟨j2, τ7, τ8, y', ρ8, k1, k2, k3, k4, k5⟩ := force_sim (T := 1) hR6 hd2 y3 (by omega) vs3 (by rw [s_p_ne (by decide), s_p_ne (by decide), s_i_eq, u_ne (by decide)]; exact y6)
          rw [k3, Option.bind_some] at hrh
          have hgr : ∀ k i, k ∉ ms_cMac_force → k ∉ ms_cMac_workOn → (k, i) ∉ fs_cMac_force → (k, i) ∉ fs_cMac_workOn → τ8.1 k i = (jI_put 10 (jI_put 50 (jx_i τ5 8 17 (0 : Int32)) 73 (nI go) an2.2) 71 (6 : Int32) (nI (go + 1))).1 k i := fun k i a1 a2 a3 a4 => ((tks_fr k2 k i a2 a4).1).trans (f_cMac_force _ _ _ jFr.rfl _ k1 k i a1 a3).1
          have hgr2 : ∀ k i, k ∉ ms_r_worked → (k, i) ∉ fs_r_worked → ρ8.1 k i = (jx_i (jx_i ρ4 167 go an2.2) 106 95 (nI (go + 1))).1 k i := fun k i a1 a3 => (f_r_worked _ _ _ jFr.rfl _ k3 k i a1 a3).1
          have e73c : ∀ i, i < go + 1 → τ8.1 73 i = ρ8.1 167 i := fun i hi => by
            rw [hgr 73 i (by decide) (by decide) (by simp [fs_cMac_force]) (by simp [fs_cMac_workOn]), hgr2 167 i (by decide) (by simp [fs_r_worked])]
            exact hel2 i hi
          have hgk : gks (1 + (j1 + (1 + j2))) τ τ8 := gks_add (a := 1) ⟨τ3, h14, Or.inl ⟨h11, t1⟩, rfl⟩ (gks_add (gks_of f2) (gks_add (a := 1) ⟨τ7, z14, Or.inl ⟨z11, t38.trans k1⟩, rfl⟩ (gks_of k2)))
          rcases k5 with ⟨H', hEN⟩ | ⟨H4, S4, pd4, an4, st4, hA4, rfl, hst4, hcn4⟩
          · obtain ⟨en, q1, q2, q3, q4⟩ := hEN.1
            refine ⟨1 + (j1 + (1 + j2)), τ8, jx_i ρ8 106 96 0, hgk, ?_, by omega, fun N => ?_, H', go + 1, FIN_EN hEN (by omega) e73c⟩
            · rw [q3]; exact nI_ne0 (by omega) (by omega)
            · rw [show N + (n + 1) + 1 = (N + n + 1) + 1 by omega, jx_loop_inl (s1 := (y', ρ8))]
              · exact jx_loop_inr (rAl_end q4 (by omega) q2)
              · exact hrh
          · obtain ⟨j5, τ9, ρ9, w1, w2, w3, w4, w5⟩ := ih H4 S4 pd4 an4 st4 (go + 1) τ8 ρ8 (by omega) (by omega) hA4 (by rw [hgr 8 17 (by decide) (by decide) (by decide) (by decide), s_p_ne (by decide), s_p_ne (by decide), s_i_eq, u_eq rfl]) e73c
            refine ⟨1 + (j1 + (1 + j2)) + j5, τ9, ρ9, gks_add hgk w1, w2, by omega, fun N => ?_, w5⟩
            rw [show N + (n + 1) + 1 = (N + n + 1) + 1 by omega, jx_loop_inl (s1 := (rV an4, ρ8))]
            · exact w4 N
            · exact hrh
