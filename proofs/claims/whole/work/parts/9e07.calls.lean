/-! CALLS, 7: isStrict, function. -/
theorem fun_of {nS : Nat → Nat} : ∀ F, nS 0 = 0 → ∀ k, k < nS F → ∃ g, g < F ∧ nS g ≤ k ∧ k < nS (g + 1) := by
  intro F
  induction F with
  | zero => intro h k hk; omega
  | succ F ih =>
    intro h k hk
    by_cases z : k < nS F
    · obtain ⟨g, g1, g2, g3⟩ := ih h k z
      exact ⟨g, by omega, g2, g3⟩
    · exact ⟨F, by omega, by omega, hk⟩
theorem call_strict {τ ρ : jx_S} (h : IV2 τ ρ) (x1 : Int32) : ∃ r ρ', p_cl_isStrict x1 τ = some (r, τ) ∧ p_r_isStrict x1 ρ = some (r, ρ') ∧ IV2 τ ρ' := by
  have hno : ρ.1 106 3 = 0 → p_r_isStrict x1 ρ = some (-1, jx_i ρ 106 2 0) := fun q => by
    unfold p_r_isStrict p_r_isStrict_7
    refine jx_loop_inr (n := 99999999) ?_
    show p_r_isStrict_7_s x1 0 (jx_i ρ 106 2 0) = _
    unfold p_r_isStrict_7_s
    have e3 : (jx_i ρ 106 2 0).1 106 3 = 0 := by rw [s_i_eq, u_ne (by decide)]; exact q
    by_cases y : (jx_i ρ 106 2 0).1 106 25 ≤ 0
    · rw [if_pos y]; rfl
    · rw [if_neg y, if_pos e3]; rfl
  have cno : v_cl_isUsable τ = 0 → p_cl_isStrict x1 τ = some (-1, τ) := fun q => by
    unfold p_cl_isStrict
    rw [q, if_neg (fun q => q rfl)]
  obtain ⟨T, z, g, h1, h2, h3, h4⟩ := id h
  rcases h4 with h4 | h4
  · exact ⟨-1, _, cno (c_nouse (Or.inl h4.1)), hno h4.2.1, IV2_2 h⟩
  · rcases iCD_or h4 with ⟨q1, q2, q3, q4, q5⟩ | ⟨q1, q2, q3, τ1, ρ1, E, G, F, nS, tS, R, pN, bN, lN', ty, V, hUS, hC, hR⟩
    · exact ⟨-1, _, cno (c_nouse (Or.inr q1)), hno q3, IV2_2 h⟩
    · obtain ⟨hRP, e1, e2, e3⟩ := use_of hUS hC hR
      obtain ⟨hE, hEC, hER, hEV, hAP, hAN, ⟨hn0, hnm⟩, hUF, u1, _⟩ := id hUS
      have e39 : τ.1 3 9 = nI (nS F) := by rw [(hC 3 9 (by decide) (by decide) (by decide)).1]; exact u1
      have e25 : (jx_i ρ 106 2 0).1 106 25 = nI (nS F) := by
        rw [s_i_eq, u_ne (by decide), (hR 106 25 (by decide) (by decide) (by decide) (by decide)).1]; exact hAP.2.2.2.1
      have e33 : ¬ (jx_i ρ 106 2 0).1 106 3 = 0 := by rw [s_i_eq, u_ne (by decide), q3]; decide
      have hN1200 : nS F ≤ 1200 := by
        by_cases y : F = 0
        · rw [y, hn0]; omega
        · have := (hRP.2.2 (F - 1) (by omega)).1.2.1
          rw [show F - 1 + 1 = F by omega] at this
          exact this
      have hec := hE.1
      -- one node, in both
      have hs : ∀ k, k < nS F → (p_cl_isStrict_11_s x1 (nI (k + 1)) τ = some (.inl (x1, nI (k + 1 + 1), τ)) ∧ p_r_isStrict_7_s x1 (nI k) (jx_i ρ 106 2 0) = some (.inl (x1, nI (k + 1), jx_i ρ 106 2 0))) ∨ ∃ r, p_cl_isStrict_11_s x1 (nI (k + 1)) τ = some (.inr (r, τ)) ∧ p_r_isStrict_7_s x1 (nI k) (jx_i ρ 106 2 0) = some (.inr (r, jx_i ρ 106 2 0)) := fun k hk => by
        obtain ⟨g, g1, g2, g3⟩ := fun_of F hn0 k hk
        obtain ⟨hA, _, _, _, _, _, n5, _⟩ := (hRP.2.2 g g1).2.2.2.2 k g2 g3
        have h23 := hA.2.2.2.2.1
        have h112 := hA.2.2.2.2.2.1
        have hK30 := hA.2.2.2.2.2.2.1
        obtain ⟨h113a, h25a, htka, _⟩ := hA.2.2.2.2.2.2.2.2.2.2.2.2.2.2.2.2.2
        have h113 : ρ.1 113 k = nI (R k).2.1 := h113a
        have h25t : τ.1 25 (k + 1) = nI (R k).2.1 := h25a
        have htk : (R k).2.1 < eC E := htka
        have h17 : τ.1 17 ((R k).2.1) = nI (eP E (R k).2.1) := by
          rw [(hC 17 _ (by decide) (by decide) (by simp [fs_cl_run])).1]; exact (hEC _ (by omega)).2.1
        have h109 : ρ.1 109 ((R k).2.1) = nI (eP E (R k).2.1) := by
          rw [(hR 109 _ (by decide) (by decide) (by decide) (by simp [fs_r_run])).1]; exact (hER.2 _ (by omega)).2.1
        have hki : ¬ (nI k < 0 ∨ 3000 ≤ k) := fun z => by
          rcases z with z | z
          · exact nI_pos (by omega) z
          · omega
        unfold p_cl_isStrict_11_s p_r_isStrict_7_s p_cl_isStrict_74 p_r_isStrict_62
        rw [e39, if_neg (nI_nlt (by omega) (by omega)), e25, if_neg (nI_ge hk (by omega)), if_neg e33, nI_clamp (show k < 2 ^ 31 by omega), if_neg hki, if_neg hki, if_neg hki, jI_at_in (show k + 1 < 1201 by omega) (by omega), h23, s_i_ne (show (112 : Nat) ≠ 106 by decide), h112, jI_at_in (show k + 1 < 1201 by omega) (by omega), h25t, jI_at_in (show (R k).2.1 < 1201 by omega) (by omega), h17, s_i_ne (show (113 : Nat) ≠ 106 by decide), h113, if_neg (nI_in (show (R k).2.1 < 1202 by omega) (by omega)), nI_clamp (show (R k).2.1 < 2 ^ 31 by omega), s_i_ne (show (109 : Nat) ≠ 106 by decide), h109, ← nI_succ, ← nI_succ]
        by_cases z5 : dK (dsc R ρ1 k) = 5
        · obtain ⟨_, m2, m3, m4, _⟩ := n5 z5
          rw [z5, if_neg (show ¬ ¬ nI 5 = (5 : Int32) from fun q => q rfl), if_neg (show ¬ 28 ≤ 5 by omega), if_neg (show ¬ ¬ nI 5 = (5 : Int32) from fun q => q rfl)]
          by_cases zp : nI (eP E (R k).2.1) = x1
          · right
            rw [if_neg (fun q => q zp), if_neg (fun q => q zp), jI_at_in (show k + 1 < 1201 by omega) (by omega), m2, s_i_ne (show (125 : Nat) ≠ 106 by decide), m3]
            rcases (show slet pN ty V (dsc R ρ1) g k = 0 ∨ slet pN ty V (dsc R ρ1) g k = 1 by omega) with w | w
            · rw [w]; exact ⟨_, rfl, rfl⟩
            · rw [w]; exact ⟨_, rfl, rfl⟩
          · left
            rw [if_pos zp, if_pos zp]; exact ⟨rfl, rfl⟩
        · left
          rw [if_pos (show ¬ nI (dK (dsc R ρ1 k)) = (5 : Int32) from fun q => z5 ((nI_eq (b := 5) (by omega) (by omega)).1 q)), if_pos (show ¬ nI (if 28 ≤ dK (dsc R ρ1 k) then 1 else dK (dsc R ρ1 k)) = (5 : Int32) from fun q => by
            by_cases y : 28 ≤ dK (dsc R ρ1 k)
            · rw [if_pos y] at q; exact absurd q (by decide)
            · rw [if_neg y] at q; exact z5 ((nI_eq (b := 5) (by omega) (by omega)).1 q))]
          exact ⟨rfl, rfl⟩
      have hl : ∀ d k, nS F - k = d → k ≤ nS F → ∃ r, ∀ N, jx_loop (N + d + 1) (fun s : Int32 × Int32 × jx_S => p_cl_isStrict_11_s s.1 s.2.1 s.2.2) (x1, nI (k + 1), τ) = some (r, τ) ∧ jx_loop (N + d + 1) (fun s : Int32 × Int32 × jx_S => p_r_isStrict_7_s s.1 s.2.1 s.2.2) (x1, nI k, jx_i ρ 106 2 0) = some (r, jx_i ρ 106 2 0) := by
        intro d
        induction d with
        | zero =>
          intro k k1 k2
          refine ⟨-1, fun N => ⟨jx_loop_inr ?_, jx_loop_inr ?_⟩⟩
          · show p_cl_isStrict_11_s x1 (nI (k + 1)) τ = _
            unfold p_cl_isStrict_11_s
            rw [e39, if_pos (nI_lt (by omega) (by omega))]; rfl
          · show p_r_isStrict_7_s x1 (nI k) (jx_i ρ 106 2 0) = _
            unfold p_r_isStrict_7_s
            rw [e25, if_pos (nI_le (by omega) (by omega))]; rfl
        | succ d ih =>
          intro k k1 k2
          rcases hs k (by omega) with ⟨w1, w2⟩ | ⟨r, w1, w2⟩
          · obtain ⟨r, hr⟩ := ih (k + 1) (by omega) (by omega)
            refine ⟨r, fun N => ?_⟩
            rw [show N + (d + 1) + 1 = (N + d + 1) + 1 by omega]
            exact ⟨(jx_loop_inl (s1 := (x1, nI (k + 1 + 1), τ)) w1).trans (hr N).1, (jx_loop_inl (s1 := (x1, nI (k + 1), jx_i ρ 106 2 0)) w2).trans (hr N).2⟩
          · exact ⟨r, fun N => ⟨jx_loop_inr w1, jx_loop_inr w2⟩⟩
      obtain ⟨r, hr⟩ := hl (nS F) 0 (by omega) (by omega)
      have hr' := hr (100000000 - nS F - 1)
      rw [show 100000000 - nS F - 1 + nS F + 1 = 100000000 by omega] at hr'
      refine ⟨r, jx_i ρ 106 2 0, ?_, ?_, IV2_2 h⟩
      · unfold p_cl_isStrict p_cl_isStrict_11
        rw [c_use h4.1 q1, if_pos (by decide)]; exact hr'.1
      · unfold p_r_isStrict p_r_isStrict_7
        exact hr'.2
/-- lets: all, or the strict ones -/
def cwL (D : Nat → jDs) (sl : Nat → Nat → Nat) (f b k : Nat) : Nat := if dK (D k) = 5 ∧ (b = 0 ∨ sl f k = 1) then 1 else 0
theorem c_lets {E : jEn} {G : jGh} {F : Nat} {nS pN bN lN' : Nat → Nat} {ty : Nat → Nat → Nat} {W : Nat → Nat} {D : Nat → jDs} {tk LO : Nat → Nat} {sl sp : Nat → Nat → Nat} {τ ρ : jx_S} {f b : Nat} (h : RP E G F nS pN bN lN' ty W D tk LO sl sp τ ρ) (hf : f < F) (hb : b < 2) (h49 : τ.1 49 f = nI (nS f + 1)) : p_cAna_countLets (nI f) (nI b) τ = some (nI (sumN (fun i => cwL D sl f b (nS f + i)) (nS (f + 1) - nS f)), τ) := by
  have hF := h.1
  obtain ⟨⟨a1, a2, _⟩, _, ⟨_, _, _, c4, _⟩, _, hnd⟩ := h.2.2 f hf
  unfold p_cAna_countLets p_cAna_countLets_15
  rw [jI_at_in (show f < 40 by omega) (by omega), h49]
  obtain ⟨s1, rfl, e⟩ := loop_invx (f := fun s : Int32 × Int32 × Int32 × Int32 × jx_S => p_cAna_countLets_15_s s.1 s.2.1 s.2.2.1 s.2.2.2.1 s.2.2.2.2) (fun k s => s = (nI f, nI b, nI (sumN (fun i => cwL D sl f b (nS f + i)) k), nI (nS f + 1 + k), τ)) (nS (f + 1) - nS f) (fun k s hk hs => by
    subst hs
    show ∃ s1, p_cAna_countLets_15_s (nI f) (nI b) (nI (sumN (fun i => cwL D sl f b (nS f + i)) k)) (nI (nS f + 1 + k)) τ = _ ∧ _
    obtain ⟨hA, _, _, _, _, _, n5, _⟩ := hnd (nS f + k) (by omega) (by omega)
    have h23 := hA.2.2.2.2.1
    have hK30 := hA.2.2.2.2.2.2.1
    have es : sumN (fun i => cwL D sl f b (nS f + i)) (k + 1) = sumN (fun i => cwL D sl f b (nS f + i)) k + cwL D sl f b (nS f + k) := rfl
    unfold p_cAna_countLets_15_s p_cAna_countLets_67 p_cAna_countLets_70
    rw [jI_at_in (show f < 40 by omega) (by omega), c4, if_neg (nI_nlt (by omega) (by omega)), show nS f + 1 + k = nS f + k + 1 by omega, jI_at_in (show nS f + k + 1 < 1201 by omega) (by omega), h23, es]
    unfold cwL
    by_cases z5 : dK (D (nS f + k)) = 5
    · obtain ⟨_, m2, _, m4, _⟩ := n5 z5
      rw [z5, if_neg (show ¬ ¬ nI 5 = (5 : Int32) from fun q => q rfl), jI_at_in (show nS f + k + 1 < 1201 by omega) (by omega), m2]
      by_cases zb : b = 0
      · rw [zb, if_pos (show nI 0 = (0 : Int32) from rfl), if_pos ⟨rfl, Or.inl rfl⟩]
        exact ⟨_, rfl, by rw [← nI_succ, ← nI_succ, show nS f + k + 1 + 1 = nS f + 1 + (k + 1) by omega]⟩
      · rw [if_neg (nI_ne0 (by omega) (by omega))]
        by_cases zs : sl f (nS f + k) = 1
        · rw [zs, if_neg (show ¬ ¬ nI 1 = (1 : Int32) from fun q => q rfl), if_pos ⟨rfl, Or.inr rfl⟩]
          exact ⟨_, rfl, by rw [← nI_succ, ← nI_succ, show nS f + k + 1 + 1 = nS f + 1 + (k + 1) by omega]⟩
        · rw [if_pos (show ¬ nI (sl f (nS f + k)) = (1 : Int32) from fun q => zs ((nI_eq (b := 1) (by omega) (by omega)).1 q)), if_neg (show ¬ (5 = 5 ∧ (b = 0 ∨ sl f (nS f + k) = 1)) from fun q => by omega)]
          exact ⟨_, rfl, by rw [← nI_succ, show nS f + k + 1 + 1 = nS f + 1 + (k + 1) by omega]; rfl⟩
    · rw [if_pos (show ¬ nI (dK (D (nS f + k))) = (5 : Int32) from fun q => z5 ((nI_eq (b := 5) (by omega) (by omega)).1 q)), if_neg (show ¬ (dK (D (nS f + k)) = 5 ∧ (b = 0 ∨ sl f (nS f + k) = 1)) from fun q => z5 q.1)]
      exact ⟨_, rfl, by rw [← nI_succ, show nS f + k + 1 + 1 = nS f + 1 + (k + 1) by omega]; rfl⟩) (s := (nI f, nI b, (0 : Int32), nI (nS f + 1), τ)) rfl (X := fun s => some (nI (sumN (fun i => cwL D sl f b (nS f + i)) (nS (f + 1) - nS f)), τ)) (fun s hs => by
    subst hs
    show p_cAna_countLets_15_s (nI f) (nI b) (nI (sumN (fun i => cwL D sl f b (nS f + i)) (nS (f + 1) - nS f))) (nI (nS f + 1 + (nS (f + 1) - nS f))) τ = _
    unfold p_cAna_countLets_15_s
    rw [jI_at_in (show f < 40 by omega) (by omega), c4, if_pos (nI_lt (by omega) (by omega))]) (n := 100000000) (by omega)
  exact e
