/-! RUNS, 51: a whole run, in both: the end. -/
theorem s_c_eq {n : Nat} {σ : jx_S} {a : Nat} : (jI_clr n σ a).1 a = fun j => if j < n then 0 else σ.1 a j := if_pos rfl
theorem s_c_ne {n : Nat} {σ : jx_S} {a r : Nat} (h : r ≠ a) : (jI_clr n σ a).1 r = σ.1 r := if_neg h
theorem FIN_EN0 {H : jHp} {go : Nat} {τ ρ : jx_S} (h : EN H go τ ρ) (hg : go ≤ 50) (hel : ∀ i, i < go → τ.1 73 i = ρ.1 167 i) : FIN H go τ ρ := by
  obtain ⟨⟨en, e1, e2, e3, e4⟩, a, b, c, ⟨d1, d2, d3⟩, f1, f2, f3⟩ := h
  exact ⟨⟨en, by omega, e2, e3, Or.inl ⟨e1, e4⟩⟩, a, b, c, ⟨by rw [d1, f1], d2, f2, hg, by rw [d3, f3], Or.inl f3⟩, hel⟩
theorem fin_both {H : jHp} {go : Nat} {τ ρ : jx_S} (h : FIN H go τ ρ) : ∃ en ρ', 1 ≤ en ∧ en ≤ 5 ∧ τ.1 8 14 = nI en ∧ p_r_run_246 ρ = some (nI en, ρ') ∧ TD (cEnd τ) ρ' ∧ ∀ j, j ≠ 87 → ρ'.1 106 j = ρ.1 106 j := by
  obtain ⟨en, h1, h2, h3, h4⟩ := h.1
  refine ⟨en, jx_i ρ 106 87 (nI en), h1, h2, h3, ?_, TD_FIN h (fun j hj => by rw [s_i_eq, u_ne hj]) (by rw [s_i_ne (by decide)]) (by rw [s_i_ne (by decide)]), fun j hj => by rw [s_i_eq, u_ne hj]⟩
  unfold p_r_run_246
  rcases h4 with ⟨q1, q2⟩ | ⟨q1, q2⟩
  · rw [q2, if_pos (nI_ne0 (by omega) (by omega))]
  · rw [q2, if_neg (fun q => q rfl), q1]; rfl
theorem c_start {τ : jx_S} {f lm : Nat} {x3 : Int32} (hq : x3 = 0 ∨ x3 = 1) : ∃ τa, p_cMac_runFunction (nI f) (nI lm) x3 τ = p_cMac_runFunction_48 (nI f) 0 τa ∧ (∀ r, r ≠ 8 → r ≠ 9 → r ≠ 71 → τa.1 r = τ.1 r) ∧ (∀ j, 11 ≤ j → j ≤ 16 → τa.1 9 j = 0) ∧ (τa.1 8 11 = 0 ∧ τa.1 8 12 = nI lm ∧ τa.1 8 13 = x3 ∧ τa.1 8 14 = 0 ∧ τa.1 8 17 = 0 ∧ τa.1 8 18 = -1) ∧ (∀ j, j < 10 → τa.1 71 j = 0) ∧ τa.2 = τ.2 := by
  refine ⟨jx_i (jx_i (jx_i (jx_i (jx_i (jx_i (jx_i (jx_i (jx_i (jx_i (jx_i (jx_i (jI_clr 10 τ 71) 9 11 (0 : Int32)) 9 12 (0 : Int32)) 9 13 (0 : Int32)) 9 14 (0 : Int32)) 9 15 (0 : Int32)) 9 16 (0 : Int32)) 8 11 (0 : Int32)) 8 12 (nI lm)) 8 13 x3) 8 14 (0 : Int32)) 8 18 (-1 : Int32)) 8 17 (0 : Int32), ?_, fun r h1 h2 h3 => ?_, fun j h1 h2 => ?_, ⟨?_, ?_, ?_, ?_, ?_, ?_⟩, fun j hj => ?_, rfl⟩
  · unfold p_cMac_runFunction p_cHea_clear
    rw [Option.bind_some, if_pos hq]
  · rw [s_i_ne h1, s_i_ne h1, s_i_ne h1, s_i_ne h1, s_i_ne h1, s_i_ne h1, s_i_ne h2, s_i_ne h2, s_i_ne h2, s_i_ne h2, s_i_ne h2, s_i_ne h2, s_c_ne h3]
  · rcases (show j = 11 ∨ j = 12 ∨ j = 13 ∨ j = 14 ∨ j = 15 ∨ j = 16 by omega) with rfl | rfl | rfl | rfl | rfl | rfl <;> rfl
  · rfl
  · rfl
  · rfl
  · rfl
  · rfl
  · rfl
  · rw [s_i_ne (by decide), s_i_ne (by decide), s_i_ne (by decide), s_i_ne (by decide), s_i_ne (by decide), s_i_ne (by decide), s_i_ne (by decide), s_i_ne (by decide), s_i_ne (by decide), s_i_ne (by decide), s_i_ne (by decide), s_i_ne (by decide), s_c_eq]
    exact if_pos hj
theorem r_start {ρ : jx_S} {f lm : Nat} {x3 : Int32} (hq : x3 = 0 ∨ x3 = 1) : ∃ ρa, p_r_run_109 (nI f) (nI lm) x3 0 ρ = p_r_run_138 (nI f) 0 ρa ∧ (∀ r, r ≠ 106 → ρa.1 r = ρ.1 r) ∧ (∀ j, j ∈ [62, 67, 70, 74, 76, 82, 83, 85, 87, 88, 91, 92, 93, 95, 96] → ρa.1 106 j = 0) ∧ (ρa.1 106 2 = 0 ∧ ρa.1 106 89 = nI lm ∧ ρa.1 106 86 = x3 ∧ ρa.1 106 98 = ρ.1 106 98) ∧ ρa.2 = ρ.2 := by
  unfold p_r_run_109 p_r_clearRun
  rw [if_pos (show (0 : Int32) ≤ 0 by decide), Option.bind_some, if_pos hq]
  refine ⟨_, rfl, fun r hr => ?_, fun j hj => ?_, ⟨?_, ?_, ?_, ?_⟩, rfl⟩
  · rw [s_i_ne hr, s_i_ne hr, s_i_ne hr, s_i_ne hr, s_i_ne hr, s_i_ne hr, s_i_ne hr, s_i_ne hr, s_i_ne hr, s_i_ne hr, s_i_ne hr, s_i_ne hr, s_i_ne hr, s_i_ne hr, s_i_ne hr, s_i_ne hr, s_i_ne hr, s_i_ne hr]
  · simp only [List.mem_cons, List.not_mem_nil, or_false] at hj
    rcases hj with rfl | rfl | rfl | rfl | rfl | rfl | rfl | rfl | rfl | rfl | rfl | rfl | rfl | rfl | rfl <;> rfl
  · rfl
  · rfl
  · rfl
  · rfl
theorem run_ok {E : jEn} {G : jGh} {F : Nat} {nS pN bN lN' : Nat → Nat} {ty : Nat → Nat → Nat} {W : Nat → Nat} {D : Nat → jDs} {tk LO : Nat → Nat} {sl sp : Nat → Nat → Nat} {f lm : Nat} {x3 : Int32} {τ ρ : jx_S} (h : RP E G F nS pN bN lN' ty W D tk LO sl sp τ ρ) (hf : f < F) (hlm : lm ≤ 50000) (hq : x3 = 0 ∨ x3 = 1) (hty : ∀ i, i < pN f → ty f i = 0) (h98 : ρ.1 106 98 = nI (pN f)) (harg : ∀ i, i < pN f → τ.1 13 i = ρ.1 168 i) : ∃ en τ' ρ', 1 ≤ en ∧ en ≤ 5 ∧ p_cMac_runFunction (nI f) (nI lm) x3 τ = some (nI en, τ') ∧ p_r_run_109 (nI f) (nI lm) x3 0 ρ = some (nI en, ρ') ∧ TD τ' ρ' ∧ ρ'.1 106 2 = 0 ∧ ρ'.1 106 98 = 0 := by
  obtain ⟨τa, ta0, ta1, ta2, ⟨ta11, ta12, ta13, ta14, ta17, ta18⟩, ta71, taL⟩ := c_start (τ := τ) (f := f) (lm := lm) hq
  obtain ⟨ρa, ra0, ra1, ra2, ⟨ra2', ra89, ra86, ra98⟩, raL⟩ := r_start (ρ := ρ) (f := f) (lm := lm) hq
  have hF40 := h.1
  obtain ⟨⟨a1, a2, a3, a4, a5⟩, ⟨b1, b2, b3, b4, b5⟩, ⟨c1, c2, c3, c4, c5⟩, ⟨d1, d2, d3, d4, d5⟩, _⟩ := h.2.2 f hf
  obtain ⟨τb, tb0, tb1, tb2, tb3⟩ := c_args (τ := τa) (f := f) (p := pN f) (by omega) b1 (by rw [ta1 43 (by decide) (by decide) (by decide)]; exact c1)
  obtain ⟨ρb, rb0, rb1, rb2, rb3⟩ := r_args (ρ := ρa) (f := f) (n := pN f) (by omega) b1 (by rw [ra98]; exact h98)
  have hRP : RP E G F nS pN bN lN' ty W D tk LO sl sp τb (jx_i (jx_i (jx_i ρb 106 85 (nI (pN f))) 106 98 0) 106 85 (nI 0)) := RP_keep h (fun r hr => by
      rw [tb1]
      exact ta1 r (by revert hr; revert r; decide) (by revert hr; revert r; decide) (by revert hr; revert r; decide)) (by rw [tb2 19 (by decide), taL]) (fun r hr => by
      have hne : r ≠ 106 := by revert hr; revert r; decide
      rw [s_i_ne hne, s_i_ne hne, s_i_ne hne, rb1]
      exact ra1 r hne)
  have hR0 := RU0_0 (bt := bN f) (fc := 0) (lm := lm) hRP hlm (fun j q1 q2 => by rw [tb1]; exact ta2 j q1 q2) (by rw [tb1]; exact ta11) (by rw [tb1]; exact ta12) (by
      rw [tb1, ta13, s_i_eq, u_ne (by decide), s_i_eq, u_ne (by decide), s_i_eq, u_ne (by decide), rb1, ra86]
      exact ⟨rfl, hq⟩) (by rw [tb1]; exact ta14) (fun j hj => by rw [tb1]; exact ta71 j hj) (fun j hj => by
      by_cases z : j = 85
      · rw [s_i_eq, u_eq z]; rfl
      · rw [s_i_eq, u_ne z, s_i_eq, u_ne (fun q => by subst q; revert hj; decide), s_i_eq, u_ne z, rb1]
        exact ra2 j hj) (by rw [s_i_eq, u_ne (by decide), s_i_eq, u_ne (by decide), s_i_eq, u_ne (by decide), rb1]; exact ra89)
  have hce := c_enter (τ := τb) (g := f) (p := pN f) (l := lN' f) (n := nS (f + 1)) (b := 0) (v := fun s => (0, τ.1 13 s)) (by rw [tb1]; exact ta2 14 (by omega) (by omega)) (by rw [tb1, ta1 47 (by decide) (by decide) (by decide)]; exact c3) (by rw [tb1, ta1 43 (by decide) (by decide) (by decide)]; exact c1) (by rw [tb1, ta1 51 (by decide) (by decide) (by decide)]; exact c4) (by omega) b1 b2 b3 (by omega) (fun s hs => by
      rw [tb3 s hs, ta1 13 (by decide) (by decide) (by decide)])
  have hrc := r_call (H := h00) (ρ := jx_i (jx_i ρb 106 85 (nI (pN f))) 106 98 0) (g := f) (t := 0) (m := pN f) (l := lN' f) (n := nS (f + 1) - 1) (b := 0) (a0 := 0) (v := (4, nI f)) (w := fun j => (0, ρ.1 168 j)) hR0.2.2.2.2.1.2.2.2.2 (Or.inl ⟨rfl, rfl⟩) (fun p hp => absurd hp (Nat.not_lt_zero p)) (fun a ha => absurd ha (Nat.not_lt_zero a)) (by omega) (by omega) (by omega) b3 (by omega) (by rw [s_i_eq, u_ne (by decide), s_i_eq, u_ne (by decide), rb1]; exact ra2 62 (by decide)) (by rw [s_i_ne (by decide), s_i_ne (by decide), rb1, ra1 129 (by decide)]; exact d3) (by rw [s_i_ne (by decide), s_i_ne (by decide), rb1, ra1 131 (by decide)]; exact d4) (by rw [s_i_eq, u_ne (by decide), s_i_eq, u_eq rfl, Nat.zero_add]) (by omega) (fun j hj => by
      show ρb.2 166 (0 + j) = _
      rw [Nat.zero_add, rb3 j hj, ra1 168 (by decide)])
  obtain ⟨τc, x1, x2, x3', x4, x5⟩ := hce.1 (by omega)
  obtain ⟨ρc, y1, y2, y3, y4, y5, y6, y7, y8, y9, y10⟩ := hrc.1 (by omega)
  have e71 : (jI_put 10 (jx_i τb 9 14 (nI (0 + lN' f))) 71 (8 : Int32) (jI_at 10 (τb.1 71) (8 : Int32) + 1)).1 71 = upd (τb.1 71) 8 (τb.1 71 8 + 1) := by
    rw [s_p_eq, show (8 : Int32) = nI 8 from rfl, jI_up_in (by omega) (by omega), jI_at_in (by omega) (by omega), s_i_ne (by decide)]
  have e91 : ∀ X : jx_S, (jx_i X 106 85 (nI 0)).1 106 91 = X.1 106 91 := fun X => by rw [s_i_eq, u_ne (by decide)]
  obtain ⟨τ2, ρ2, r1, r2, r3⟩ := beg_fun (τ' := τc) (ρ' := ρc) (v := fun s => (0, τ.1 13 s)) hR0 (fun i hi => absurd hi (Nat.not_lt_zero i)) hf (show 0 + lN' f ≤ 30000 by omega) (fun s hs => Or.inl ⟨rfl, hty s hs⟩) (fun r q1 q2 => by rw [x2, s_p_ne q2, s_i_ne q1]) (fun j hj => by rw [x2, s_p_ne (by decide), s_i_eq, u_ne hj]) (by rw [x2, s_p_ne (by decide), s_i_eq, u_eq rfl]; rfl) (fun j hj => by rw [x2, e71, u_ne hj]) (by rw [x2, e71, u_eq rfl]) (fun r q1 _ => x3' r q1) (fun j hj => absurd hj (Nat.not_lt_zero j)) (fun s hs => x5 s hs) (fun r hr => (y2 r hr).trans (s_i_ne hr).symm) (fun j q1 q2 => by
      rw [s_i_eq]
      by_cases z : j = 85
      · rw [u_eq z, z, y6]
      · rw [u_ne z, y3 j q1 q2 z]) y4 (by rw [y5, e91]) (fun r hr => y7 r hr) (fun j hj => absurd hj (Nat.not_lt_zero j)) (fun s hs => by
      have := y10 s hs
      rw [Nat.add_zero] at this
      show ρc.2 150 (0 + s) = _
      rw [this, harg s hs]) (fun q => absurd q (Nat.not_lt_zero 0)) (fun _ => ⟨rfl, rfl⟩)
  have r1' : p_cMac_enter (nI f) τb = some τ2 := x1.trans r1
  have r2' : p_r_call (rV (4, nI f)) (nI (pN f)) (jx_i (jx_i ρb 106 85 (nI (pN f))) 106 98 0) = some ρ2 := y1.trans r2
  rw [r1', Option.bind_some] at tb0
  rw [r2', Option.bind_some] at rb0
  rw [ta0, ra0, tb0, rb0]
  have hent : ∀ k i, k ∉ ms_cMac_enter → (k, i) ∉ fs_cMac_enter → τ2.1 k i = τb.1 k i := fun k i q1 q2 => (f_cMac_enter τb _ τb jFr.rfl τ2 r1' k i q1 q2).1
  have hcal : ∀ k i, k ∉ ms_r_call → (k, i) ∉ fs_r_call → ρ2.1 k i = (jx_i (jx_i ρb 106 85 (nI (pN f))) 106 98 0).1 k i := fun k i q1 q2 => (f_r_call _ _ _ _ jFr.rfl ρ2 r2' k i q1 q2).1
  have z2 : ρ2.1 106 2 = 0 := by
    rw [hcal 106 2 (by decide) (by decide), s_i_eq, u_ne (by decide), s_i_eq, u_ne (by decide), rb1]; exact ra2'
  have z98 : ρ2.1 106 98 = 0 := by
    rw [hcal 106 98 (by decide) (by decide), s_i_eq, u_eq rfl]
  have z18 : τ2.1 8 18 = -1 := by rw [hent 8 18 (by decide) (by decide), tb1]; exact ta18
  have z17 : τ2.1 8 17 = 0 := by rw [hent 8 17 (by decide) (by decide), tb1]; exact ta17
  have z45 : τ2.1 45 f = nI (bN f) := by rw [hent 45 f (by decide) (by simp [fs_cMac_enter]), tb1, ta1 45 (by decide) (by decide) (by decide)]; exact c2
  have z128 : ρ2.1 128 f = nI (bN f) := by rw [hcal 128 f (by decide) (by simp [fs_r_call]), s_i_ne (by decide), s_i_ne (by decide), rb1, ra1 128 (by decide)]; exact d2
  have hgofr : ∀ ρ3, p_r_go ρ2 = some ρ3 → ρ3.1 106 2 = 0 ∧ ρ3.1 106 98 = 0 ∧ ρ3.1 128 f = nI (bN f) := fun ρ3 q => by
    refine ⟨?_, ?_, ?_⟩
    · rw [(f_r_go ρ2 ρ2 jFr.rfl ρ3 q 106 2 (by decide) (by decide)).1]; exact z2
    · rw [(f_r_go ρ2 ρ2 jFr.rfl ρ3 q 106 98 (by decide) (by decide)).1]; exact z98
    · rw [(f_r_go ρ2 ρ2 jFr.rfl ρ3 q 128 f (by decide) (by simp [fs_r_go])).1]; exact z128
  -- an end within
  have fin : ∀ j τ3 ρ3 H', tks j τ2 τ3 → j ≤ 900020 → p_r_go ρ2 = some ρ3 → EN H' 0 τ3 ρ3 → ∃ en τ' ρ', 1 ≤ en ∧ en ≤ 5 ∧ p_cMac_runFunction_97 (nI f) 0 τ2 = some (nI en, τ') ∧ ((p_r_go ρ2).bind fun q3 => r138e f q3) = some (nI en, ρ') ∧ TD τ' ρ' ∧ ρ'.1 106 2 = 0 ∧ ρ'.1 106 98 = 0 := fun j τ3 ρ3 H' q1 q2 q3 q4 => by
    obtain ⟨g1, g2, g3⟩ := hgofr ρ3 q3
    obtain ⟨en, ρ', w1, w2, w3, w4, w5, w6⟩ := fin_both (FIN_EN0 q4 (Nat.zero_le _) (fun i hi => absurd hi (Nat.not_lt_zero i)))
    refine ⟨en, cEnd τ3, ρ', w1, w2, ?_, ?_, w5, by rw [w6 2 (by decide)]; exact g1, by rw [w6 98 (by decide)]; exact g2⟩
    · unfold p_cMac_runFunction_97
      have := c97_tks (f := f) j 0 τ2 τ3 q1 (by omega) (100000000 - j - 1 + 1)
      rw [show 100000000 - j - 1 + 1 + j = 100000000 by omega] at this
      refine Eq.trans this ?_
      exact (c97_end (by rw [w3]; exact nI_ne0 (by omega) (by omega)) _).trans (by rw [w3])
    · obtain ⟨en2, e1, e2, _, e4⟩ := q4.1
      rw [q3, Option.bind_some]
      unfold r138e p_r_run_235
      have hne : ¬ ρ3.1 106 87 = 0 := by rw [e4]; exact nI_ne0 (by omega) (by omega)
      rw [if_pos hne, if_pos hne]
      exact w4
  rcases r3 with ⟨H', r3⟩ | ⟨H1, S1, an1, r3, r4⟩
  · exact fin 0 τ2 ρ2 H' rfl (by omega) (r_goE r3) r3
  · have hm0 : mea s00 0 lm = 18 * lm := (mea_0 rfl).trans (by rw [Nat.sub_zero])
    rw [hm0] at r4
    obtain ⟨j, k, τ3, ρ3, t1, t2, t3, t4, t5⟩ := go_all (mea S1 (0 + 1) lm) H1 S1 0 an1 (0 + 1) τ2 ρ2 (Nat.le_refl _) r3
    have hgo : p_r_go ρ2 = some ρ3 := by
      unfold p_r_go p_r_go_0
      have := t4 (100000000 - k - 1)
      rw [show 100000000 - k - 1 + k + 1 = 100000000 by omega] at this
      exact this
    rcases t5 with ⟨H', t5⟩ | ⟨H2, S2, pd2, an2, st2, t5, t6, t7, t8⟩
    · exact fin j τ3 ρ3 H' t1 (by omega) hgo t5
    · rw [mea_0 t6] at t7
      obtain ⟨g1, g2, g3⟩ := hgofr ρ3 hgo
      obtain ⟨q1, q2, q3⟩ := t5.2.1.1 t6
      subst q3
      obtain ⟨v1, v2⟩ := t5.2.2 (Or.inl t6)
      have k87 := t5.1.2.2.2.1.2.1
      have hk8 := t5.1.2.2.2.1.2.2.2.2.2.2.2.1
      have hk9 := t5.1.2.2.2.1.2.2.2.2.2.2.2.2
      have h14 := t5.1.2.2.2.1.1
      have h11 : τ3.1 8 11 ≤ 0 := by rw [t5.1.2.2.1.1.1, t6]; decide
      have y45 : τ3.1 45 f = nI (bN f) := by rw [(tks_fr t1 45 f (by decide) (by simp [fs_cMac_workOn])).1]; exact z45
      rcases (show bN f = 0 ∨ bN f = 1 by omega) with hb | hb
      · -- an int
        have e5 : (jI_put 10 (jx_i τ3 8 14 (1 : Int32)) 71 (5 : Int32) an2.2).1 71 = upd (τ3.1 71) 5 an2.2 := by
          rw [s_p_eq, show (5 : Int32) = nI 5 from rfl, jI_up_in (by omega) (by omega), s_i_ne (by decide)]
        have hFIN : FIN H2 0 (jI_put 10 (jx_i τ3 8 14 (1 : Int32)) 71 (5 : Int32) an2.2) (jx_i ρ3 106 93 an2.2) := FIN_RU (nl := 0) t5.1 (Nat.zero_le _) (by omega) (fun i hi => absurd hi (Nat.not_lt_zero i)) (by rw [s_p_ne (by decide), s_i_eq, u_eq rfl]) (fun j p1 p2 => by rw [e5, u_ne p1]) (by rw [e5, u_ne (by decide)]; exact hk8.2.2) (by rw [s_p_ne (by decide), s_i_ne (by decide)]) (fun j p1 p2 => by rw [s_i_eq, u_ne p1]) (by rw [s_i_eq, u_ne (by decide)]; exact hk9.2.2) (by rw [e5, u_eq rfl, s_i_eq, u_eq rfl]) (by rw [s_i_ne (by decide)])
        obtain ⟨en, ρ', w1, w2, w3, w4, w5, w6⟩ := fin_both hFIN
        refine ⟨en, _, ρ', w1, w2, ?_, ?_, w5, by rw [w6 2 (by decide), s_i_eq, u_ne (by decide)]; exact g1, by rw [w6 98 (by decide), s_i_eq, u_ne (by decide)]; exact g2⟩
        · unfold p_cMac_runFunction_97
          have := c97_tks (f := f) j 0 τ2 τ3 t1 (by omega) (100000000 - j - 2 + 1 + 1)
          rw [show 100000000 - j - 2 + 1 + 1 + j = 100000000 by omega] at this
          refine Eq.trans this ?_
          rw [jx_loop_inl (s1 := (nI f, nI (0 + j + 1), jI_put 10 (jx_i τ3 8 14 (1 : Int32)) 71 (5 : Int32) an2.2)), c97_end (by rw [w3]; exact nI_ne0 (by omega) (by omega)), w3]
          show p_cMac_runFunction_97_s (nI f) (nI (0 + j)) τ3 = _
          unfold p_cMac_runFunction_97_s p_cMac_runFunction_192
          rw [if_neg (show ¬ (1000000 : Int32) ≤ nI (0 + j) from (nI_ge (by omega) (by omega) : ¬ nI 1000000 ≤ nI (0 + j))), h14, if_neg (fun q => q rfl), if_pos h11, jI_at_in (show f < 40 by omega) (by omega), y45, hb, if_neg (fun q => q rfl), v1, c_num, ← nI_succ]
        · rw [hgo, Option.bind_some]
          unfold r138e
          rw [k87, if_neg (fun q => q rfl), g3, hb, if_neg (fun q => q rfl), v2, r_num]
          exact w4
      · -- a list
        have hAL : AL E G F nS pN bN lN' ty W D tk LO sl sp H2 S2 0 an2 1 st2 lm 0 τ3 ρ3 := ⟨RU0_out t5.1 t6 (fun _ _ => rfl) (fun _ _ => rfl) (fun _ _ => rfl) hk8.2.1 (fun _ _ => rfl) (fun _ _ => rfl) (fun _ _ => rfl) hk9.2.1 (fun _ _ => rfl), t6, t5.2.1.2.2.2.2, fun q => absurd rfl q, q1, by rw [← hb]; exact q2, v1, by rw [if_pos rfl, (tks_fr t1 8 18 (by decide) (by decide)).1]; exact z18⟩
        obtain ⟨j2, τ4, ρ4, w1, w2, w3, w4, H', go', w5⟩ := along_all 50 H2 S2 0 an2 st2 0 τ3 ρ3 rfl (by omega) hAL (by rw [(tks_fr t1 8 17 (by decide) (by decide)).1]; exact z17) (fun i hi => absurd hi (Nat.not_lt_zero i))
        have hra : p_r_goAlong ρ3 = some ρ4 := by
          unfold p_r_goAlong p_r_goAlong_5
          rw [v2]
          have := w4 (100000000 - 50 - 1)
          rw [show 100000000 - 50 - 1 + 50 + 1 = 100000000 by omega] at this
          exact this
        obtain ⟨en, ρ', u1, u2, u3, u4, u5, u6⟩ := fin_both w5
        refine ⟨en, cEnd τ4, ρ', u1, u2, ?_, ?_, u5, ?_, ?_⟩
        · unfold p_cMac_runFunction_97
          have h1 := c97_tks (f := f) j 0 τ2 τ3 t1 (by omega) (100000000 - j - j2 - 1 + 1 + j2)
          rw [show 100000000 - j - j2 - 1 + 1 + j2 + j = 100000000 by omega] at h1
          refine Eq.trans h1 ?_
          rw [c97_gks (f := f) (by omega) j2 (0 + j) τ3 τ4 w1 (by rw [y45, hb]) (by omega) (100000000 - j - j2 - 1 + 1), c97_end w2, u3]
        · rw [hgo, Option.bind_some]
          unfold r138e p_r_run_235
          rw [k87, if_neg (fun q => q rfl), g3, hb, if_pos (show ¬ nI 1 = 0 by decide), if_neg (fun q => q rfl), hra, Option.bind_some]
          exact u4
        · rw [u6 2 (by decide), (f_r_goAlong ρ3 ρ3 jFr.rfl ρ4 hra 106 2 (by decide) (by decide)).1]; exact g1
        · rw [u6 98 (by decide), (f_r_goAlong ρ3 ρ3 jFr.rfl ρ4 hra 106 98 (by decide) (by decide)).1]; exact g2
