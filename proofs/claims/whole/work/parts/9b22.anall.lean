/-! ANALYSIS, 22: all of it, in both. -/
def CJ (F : Nat) (nS pN : Nat → Nat) (ty V : Nat → Nat → Nat) (D : Nat → jDs) (f : Nat) (τ : jx_S) : Prop := (∀ g, g < f → ∀ i, i < pN g → τ.1 59 (30 * g + i) = nI (spar pN ty V g i)) ∧ (∀ g, f ≤ g → g < F → ∀ i, i < pN g → τ.1 59 (30 * g + i) = 0) ∧ ∀ g, g < f → ∀ k, nS g ≤ k → k < nS (g + 1) → dK (D k) = 5 → τ.1 39 (k + 1) = nI (slet pN ty V D g k)
def RJ (nS pN : Nat → Nat) (ty V : Nat → Nat → Nat) (D : Nat → jDs) (f : Nat) (ρ : jx_S) : Prop := (∀ g, g < f → ∀ i, i < pN g → ρ.1 136 (8 * g + i) = nI (spar pN ty V g i)) ∧ ∀ g, g < f → ∀ k, nS g ≤ k → k < nS (g + 1) → dK (D k) = 5 → ρ.1 125 k = nI (slet pN ty V D g k)
theorem c_judge {E : jEn} {F : Nat} {nS pN lN' : Nat → Nat} {ty : Nat → Nat → Nat} {W : Nat → Nat} {D : Nat → jDs} {tk : Nat → Nat} {τ ρ : jx_S} (hP : AP E F nS pN lN' ty W D tk τ ρ) (hm : ∀ g h, g ≤ h → h ≤ F → nS g ≤ nS h) {V : Nat → Nat → Nat} (hV : CV F pN ty V τ) (hV2 : ∀ g, g < F → ∀ c, c < cnt (ty g) (pN g) → V g c < 2) (hL : LeV F pN ty V V) (h0 : ∀ g, g < F → ∀ i, i < pN g → τ.1 59 (30 * g + i) = 0) : ∃ τ', p_cAna_analyse_98 τ = some τ' ∧ KQ [59, 67, 69, 39] 7 [] τ τ' ∧ CJ F nS pN ty V D F τ' := by
  have hF := hP.1
  unfold p_cAna_analyse_98 p_cAna_analyse_100
  obtain ⟨s1, ⟨τ', rfl, hk, hJ⟩, e⟩ := loop_invx (f := fun s : Int32 × jx_S => p_cAna_analyse_100_s s.1 s.2) (fun f s => ∃ τ', s = (nI f, τ') ∧ KQ [59, 67, 69, 39] 7 [] τ τ' ∧ CJ F nS pN ty V D f τ') F (fun f s hf h => by
    obtain ⟨τ', rfl, hk, hj1, hj2, hj3⟩ := h
    have hP' : AP E F nS pN lN' ty W D tk τ' ρ := AP_c hP (KQ_mono hk (by decide) (by decide))
    have hV' : CV F pN ty V τ' := CV_keep hV (hk.1 63 (by decide) (by decide)) (hk.2.1 6 (by decide))
    obtain ⟨τ1, e1, k1, p1, p2⟩ := c_jpar hP' hf hV' hV2 (hj2 f (Nat.le_refl _) hf)
    have hP1 : AP E F nS pN lN' ty W D tk τ1 ρ := AP_c hP' (KQ_mono k1 (by decide) (by decide))
    obtain ⟨τ2, e2, k2, q1, q2⟩ := c_jlet hP1 hf (CV_keep hV' (k1.1 63 (by decide) (by decide)) (k1.2.1 6 (by decide))) hL
    show ∃ s1, p_cAna_analyse_100_s (nI f) τ' = _ ∧ _
    unfold p_cAna_analyse_100_s
    rw [hP'.2.1, if_neg (nI_ge hf (by omega)), e1, Option.bind_some, e2, Option.bind_some, ← nI_succ]
    have e59 : τ2.1 59 = τ1.1 59 := k2.1 59 (by decide) (by decide)
    have e39 : τ1.1 39 = τ'.1 39 := k1.1 39 (by decide) (by decide)
    refine ⟨_, rfl, τ2, rfl, KQ_trans hk (KQ_trans (KQ_mono k1 (by decide) (by decide)) (KQ_mono k2 (by decide) (by decide))), fun g hg i hi => ?_, fun g g1 g2 i hi => ?_, fun g hg k y1 y2 y3 => ?_⟩
    · rw [e59]
      by_cases z : g = f
      · subst z; exact p1 i hi
      · have := (hP.2.2.2.2 g (by omega)).2.2.2.2.1
        rw [p2 _ (by omega)]; exact hj1 g (by omega) i hi
    · have := (hP.2.2.2.2 g g2).2.2.2.2.1
      have := (hP.2.2.2.2 f hf).2.2.2.2.1
      rw [e59, p2 _ (by omega)]; exact hj2 g (by omega) g2 i hi
    · by_cases z : g = f
      · subst z; exact q1 k y1 y2 y3
      · have := hm (g + 1) f (by omega) (by omega)
        rw [q2 _ (by omega), e39]; exact hj3 g (by omega) k y1 y2 y3) (s := ((0 : Int32), τ)) ⟨τ, rfl, KQ_refl, fun g hg => by omega, fun g g1 g2 => h0 g g2, fun g hg => by omega⟩ (X := fun s => some s.2) (fun s hs => by
    obtain ⟨τ', rfl, hk, _⟩ := hs
    have hP' : AP E F nS pN lN' ty W D tk τ' ρ := AP_c hP (KQ_mono hk (by decide) (by decide))
    show p_cAna_analyse_100_s (nI F) τ' = _
    unfold p_cAna_analyse_100_s
    rw [hP'.2.1, if_pos (nI_le (Nat.le_refl _) (by omega))]) (n := 100000000) (by omega)
  exact ⟨τ', e, hk, hJ⟩
theorem r_jfun {E : jEn} {F : Nat} {nS pN lN' : Nat → Nat} {ty : Nat → Nat → Nat} {W : Nat → Nat} {D : Nat → jDs} {tk : Nat → Nat} {τ ρ : jx_S} (hP : AP E F nS pN lN' ty W D tk τ ρ) {V : Nat → Nat → Nat} {f : Nat} (hf : f < F) (hV : RV F pN ty V ρ) (hV2 : ∀ g, g < F → ∀ c, c < cnt (ty g) (pN g) → V g c < 2) (hL : LeV F pN ty V V) : ∃ ρ', p_r_analyse_59 (nI f) 0 ρ = some (.inl (nI (f + 1), ρ')) ∧ KQ [136, 148, 149, 125] 106 [56] ρ ρ' ∧ (∀ i, i < pN f → ρ'.1 136 (8 * f + i) = nI (spar pN ty V f i)) ∧ (∀ j, (j < 8 * f ∨ 8 * f + pN f ≤ j) → ρ'.1 136 j = ρ.1 136 j) ∧ (∀ k, nS f ≤ k → k < nS (f + 1) → dK (D k) = 5 → ρ'.1 125 k = nI (slet pN ty V D f k)) ∧ ∀ j, (j < nS f ∨ nS (f + 1) ≤ j) → ρ'.1 125 j = ρ.1 125 j := by
  have hF := hP.1
  have h8 := (hP.2.2.2.2 f hf).2.2.2.2.1
  unfold p_r_analyse_59
  obtain ⟨s1, ⟨ρ', rfl, hk, h1, h2⟩, e⟩ := loop_invx (f := fun s : Int32 × Int32 × jx_S => p_r_analyse_59_s s.1 s.2.1 s.2.2) (fun i s => ∃ ρ', s = (nI f, nI i, ρ') ∧ KQ [136] 106 [] ρ ρ' ∧ (∀ j, j < i → ρ'.1 136 (8 * f + j) = nI (spar pN ty V f j)) ∧ ∀ j, (j < 8 * f ∨ 8 * f + pN f ≤ j) → ρ'.1 136 j = ρ.1 136 j) (pN f) (fun i s hi h => by
    obtain ⟨ρ', rfl, hk, h1, h2⟩ := h
    have hP' : AP E F nS pN lN' ty W D tk τ ρ' := AP_r hP (KQ_mono hk (by decide) (by decide))
    have hj := r_jone hP' hf hi (fun g hg m hm => by rw [hk.1 146 (by decide) (by decide)]; exact hV g hg m hm) hV2
    show ∃ s1, p_r_analyse_59_s (nI f) (nI i) ρ' = _ ∧ _
    unfold p_r_analyse_59_s
    rw [if_neg (nI_in (show f < 40 by omega) (by omega)), nI_clamp (show f < 2 ^ 31 by omega), (hP'.2.2.2.2 f hf).2.2.2.1.1, if_neg (nI_ge hi (by omega)), hj]
    refine ⟨_, rfl, _, rfl, KQ_trans hk (KQ_i (by decide) (by decide)), fun j hj => ?_, fun j hj => ?_⟩
    · rw [s_i_eq]
      by_cases z : j = i
      · rw [u_eq (by omega), z]
      · rw [u_ne (by omega)]; exact h1 j (by omega)
    · rw [s_i_eq, u_ne (by omega)]; exact h2 j hj) (s := (nI f, (0 : Int32), ρ)) ⟨ρ, rfl, KQ_refl, fun j hj => by omega, fun _ _ => rfl⟩ (X := fun s => p_r_analyse_218 (nI f) (nI (nS (f + 1))) (nI (nS f)) s.2.2) (fun s hs => by
    obtain ⟨ρ', rfl, hk, _⟩ := hs
    have hP' : AP E F nS pN lN' ty W D tk τ ρ' := AP_r hP (KQ_mono hk (by decide) (by decide))
    have h132 := (hP'.2.2.2.2 f hf).2.2.2.1.2.2.1
    have hni : ¬ (nI f < 0 ∨ 40 ≤ f) := fun z => by
      rcases z with z | z
      · exact nI_pos (by omega) z
      · omega
    show p_r_analyse_59_s (nI f) (nI (pN f)) ρ' = _
    unfold p_r_analyse_59_s p_r_analyse_209
    rw [if_neg (nI_in (show f < 40 by omega) (by omega)), nI_clamp (show f < 2 ^ 31 by omega), (hP'.2.2.2.2 f hf).2.2.2.1.1, if_pos (nI_le (Nat.le_refl _) (by omega)), hP'.2.2.1, show nI f + (1 : Int32) = nI (f + 1) from (nI_succ f).symm, h132]
    by_cases z : F ≤ f + 1
    · rw [if_pos (nI_le z (by omega)), hP'.2.2.2.1, if_neg hni, show F = f + 1 by omega]
    · rw [if_neg (nI_ge (by omega) (by omega)), if_neg (nI_in (show f + 1 < 40 by omega) (by omega)), nI_clamp (show f + 1 < 2 ^ 31 by omega), (hP'.2.2.2.2 (f + 1) (by omega)).2.2.2.1.2.2.1, if_neg hni]) (n := 100000000) (by omega)
  have hP' : AP E F nS pN lN' ty W D tk τ ρ' := AP_r hP (KQ_mono hk (by decide) (by decide))
  obtain ⟨ρ2, e2, k2, q1, q2⟩ := r_jlet hP' hf (fun g hg m hm => by rw [hk.1 146 (by decide) (by decide)]; exact hV g hg m hm) hL
  refine ⟨ρ2, e.trans e2, KQ_trans (KQ_mono hk (by decide) (by decide)) (KQ_mono k2 (by decide) (by decide)), fun i hi => ?_, fun j hj => ?_, q1, fun j hj => ?_⟩
  · rw [k2.1 136 (by decide) (by decide)]; exact h1 i hi
  · rw [k2.1 136 (by decide) (by decide)]; exact h2 j hj
  · rw [q2 j hj, hk.1 125 (by decide) (by decide)]
theorem r_judge {E : jEn} {F : Nat} {nS pN lN' : Nat → Nat} {ty : Nat → Nat → Nat} {W : Nat → Nat} {D : Nat → jDs} {tk : Nat → Nat} {τ ρ : jx_S} (hP : AP E F nS pN lN' ty W D tk τ ρ) (hm : ∀ g h, g ≤ h → h ≤ F → nS g ≤ nS h) {V : Nat → Nat → Nat} (hV : RV F pN ty V ρ) (hV2 : ∀ g, g < F → ∀ c, c < cnt (ty g) (pN g) → V g c < 2) (hL : LeV F pN ty V V) : ∃ ρ', p_r_analyse_49 0 ρ = some ρ' ∧ KQ [136, 148, 149, 125] 106 [56] ρ ρ' ∧ RJ nS pN ty V D F ρ' := by
  have hF := hP.1
  unfold p_r_analyse_49
  obtain ⟨s1, ⟨ρ', rfl, hk, hJ⟩, e⟩ := loop_invx (f := fun s : Int32 × jx_S => p_r_analyse_49_s s.1 s.2) (fun f s => ∃ ρ', s = (nI f, ρ') ∧ KQ [136, 148, 149, 125] 106 [56] ρ ρ' ∧ RJ nS pN ty V D f ρ') F (fun f s hf h => by
    obtain ⟨ρ', rfl, hk, hj1, hj3⟩ := h
    have hP' : AP E F nS pN lN' ty W D tk τ ρ' := AP_r hP (KQ_mono hk (by decide) (by decide))
    obtain ⟨ρ1, e1, k1, p1, p2, q1, q2⟩ := r_jfun hP' hf (fun g hg m hm => by rw [hk.1 146 (by decide) (by decide)]; exact hV g hg m hm) hV2 hL
    show ∃ s1, p_r_analyse_49_s (nI f) ρ' = _ ∧ _
    unfold p_r_analyse_49_s
    rw [hP'.2.2.1, if_neg (nI_ge hf (by omega)), e1]
    refine ⟨_, rfl, ρ1, rfl, KQ_trans hk k1, fun g hg i hi => ?_, fun g hg k y1 y2 y3 => ?_⟩
    · by_cases z : g = f
      · subst z; exact p1 i hi
      · have := (hP.2.2.2.2 g (by omega)).2.2.2.2.1
        rw [p2 _ (by omega)]; exact hj1 g (by omega) i hi
    · by_cases z : g = f
      · subst z; exact q1 k y1 y2 y3
      · have := hm (g + 1) f (by omega) (by omega)
        rw [q2 _ (by omega)]; exact hj3 g (by omega) k y1 y2 y3) (s := ((0 : Int32), ρ)) ⟨ρ, rfl, KQ_refl, fun g hg => by omega, fun g hg => by omega⟩ (X := fun s => some s.2) (fun s hs => by
    obtain ⟨ρ', rfl, hk, _⟩ := hs
    have hP' : AP E F nS pN lN' ty W D tk τ ρ' := AP_r hP (KQ_mono hk (by decide) (by decide))
    show p_r_analyse_49_s (nI F) ρ' = _
    unfold p_r_analyse_49_s
    rw [hP'.2.2.1, if_pos (nI_le (Nat.le_refl _) (by omega))]) (n := 100000000) (by omega)
  exact ⟨ρ', e, hk, hJ⟩
theorem c_clear1 {E : jEn} {F : Nat} {nS pN lN' : Nat → Nat} {ty : Nat → Nat → Nat} {W : Nat → Nat} {D : Nat → jDs} {tk : Nat → Nat} {τ ρ : jx_S} (hP : AP E F nS pN lN' ty W D tk τ ρ) {f : Nat} (hf : f < F) : ∃ τ', p_cAna_clear_29 (nI f) 0 τ = some (.inl (nI (f + 1), τ')) ∧ KQ [63] 7 [] τ τ' ∧ (∀ c, c < cnt (ty f) (pN f) → τ'.1 63 (1000 * f + c) = 0) ∧ ∀ j, (j < 1000 * f ∨ 1000 * f + cnt (ty f) (pN f) ≤ j) → τ'.1 63 j = τ.1 63 j := by
  have hF := hP.1
  have hc := (hP.2.2.2.2 f hf).2.2.2.2.2.2.2.1
  unfold p_cAna_clear_29
  obtain ⟨s1, ⟨τ', rfl, hk, h1, h2⟩, e⟩ := loop_invx (f := fun s : Int32 × Int32 × jx_S => p_cAna_clear_29_s s.1 s.2.1 s.2.2) (fun i s => ∃ τ', s = (nI f, nI i, τ') ∧ KQ [63] 7 [] τ τ' ∧ (∀ c, c < i → τ'.1 63 (1000 * f + c) = 0) ∧ ∀ j, (j < 1000 * f ∨ 1000 * f + cnt (ty f) (pN f) ≤ j) → τ'.1 63 j = τ.1 63 j) (cnt (ty f) (pN f)) (fun i s hi h => by
    obtain ⟨τ', rfl, hk, h1, h2⟩ := h
    have hP' : AP E F nS pN lN' ty W D tk τ' ρ := AP_c hP (KQ_mono hk (by decide) (by decide))
    show ∃ s1, p_cAna_clear_29_s (nI f) (nI i) τ' = _ ∧ _
    unfold p_cAna_clear_29_s
    rw [jI_at_in (by omega) (by omega), (hP'.2.2.2.2 f hf).2.2.1.2.2.2.2.1, if_neg (nI_ge hi (by omega)), show nI f * (1000 : Int32) = nI (f * 1000) from nI_mul f 1000, nI_add, show f * 1000 + i = 1000 * f + i by omega]
    refine ⟨_, rfl, _, by rw [← nI_succ], KQ_trans hk (KQ_p (by decide) (by decide)), fun c hc => ?_, fun j hj => ?_⟩
    · rw [s_p_eq, jI_up_in (by omega) (by omega)]
      by_cases z : c = i
      · rw [u_eq (by omega)]
      · rw [u_ne (by omega)]; exact h1 c (by omega)
    · rw [s_p_eq, jI_up_in (by omega) (by omega), u_ne (by omega)]; exact h2 j hj) (s := (nI f, (0 : Int32), τ)) ⟨τ, rfl, KQ_refl, fun j hj => by omega, fun _ _ => rfl⟩ (X := fun s => some (.inl (s.1 + 1, s.2.2))) (fun s hs => by
    obtain ⟨τ', rfl, hk, _⟩ := hs
    have hP' : AP E F nS pN lN' ty W D tk τ' ρ := AP_c hP (KQ_mono hk (by decide) (by decide))
    show p_cAna_clear_29_s (nI f) (nI (cnt (ty f) (pN f))) τ' = _
    unfold p_cAna_clear_29_s
    rw [jI_at_in (by omega) (by omega), (hP'.2.2.2.2 f hf).2.2.1.2.2.2.2.1, if_pos (nI_le (Nat.le_refl _) (by omega))]) (n := 100000000) (by omega)
  refine ⟨τ', ?_, hk, h1, h2⟩
  rw [e, nI_succ]
theorem c_clear {E : jEn} {F : Nat} {nS pN lN' : Nat → Nat} {ty : Nat → Nat → Nat} {W : Nat → Nat} {D : Nat → jDs} {tk : Nat → Nat} {τ ρ : jx_S} (hP : AP E F nS pN lN' ty W D tk τ ρ) : ∃ τ', p_cAna_clear τ = some τ' ∧ KQ [63, 65] 7 [6] τ τ' ∧ CI F nS pN ty D 0 τ' := by
  have hF := hP.1
  unfold p_cAna_clear p_cAna_clear_7
  have k0 : KQ [63, 65] 7 [6] τ (jx_i τ 7 6 0) := KQ_f (by decide)
  obtain ⟨s1, ⟨τ', rfl, hk, h76, h1, h2⟩, e⟩ := loop_invx (f := fun s : Int32 × jx_S => p_cAna_clear_7_s s.1 s.2) (fun f s => ∃ τ', s = (nI f, τ') ∧ KQ [63, 65] 7 [6] τ τ' ∧ τ'.1 7 6 = 0 ∧ (∀ g, g < f → ∀ c, c < cnt (ty g) (pN g) → τ'.1 63 (1000 * g + c) = 0) ∧ ∀ g, g < f → τ'.1 65 g = 0) F (fun f s hf h => by
    obtain ⟨τ', rfl, hk, h76, h1, h2⟩ := h
    have hP' : AP E F nS pN lN' ty W D tk τ' ρ := AP_c hP (KQ_mono hk (by decide) (by decide))
    have k1 : KQ [63, 65] 7 [6] τ' (jI_put 40 τ' 65 (nI f) 0) := KQ_p (by decide) (by decide)
    have hP1 : AP E F nS pN lN' ty W D tk (jI_put 40 τ' 65 (nI f) 0) ρ := AP_c hP' (KQ_mono k1 (by decide) (by decide))
    obtain ⟨τ2, e2, k2, q1, q2⟩ := c_clear1 hP1 hf
    show ∃ s1, p_cAna_clear_7_s (nI f) τ' = _ ∧ _
    unfold p_cAna_clear_7_s
    rw [hP'.2.1, if_neg (nI_ge hf (by omega)), e2]
    refine ⟨_, rfl, τ2, rfl, KQ_trans hk (KQ_trans k1 (KQ_mono k2 (by decide) (by decide))), ?_, fun g hg c hc => ?_, fun g hg => ?_⟩
    · rw [k2.2.1 6 (by decide), s_p_ne (by decide)]; exact h76
    · by_cases z : g = f
      · subst z; exact q1 c hc
      · have := (hP.2.2.2.2 g (by omega)).2.2.2.2.2.2.2.1
        rw [q2 _ (by omega), s_p_ne (by decide)]; exact h1 g (by omega) c hc
    · rw [k2.1 65 (by decide) (by decide), s_p_eq, jI_up_in (by omega) (by omega)]
      by_cases z : g = f
      · rw [u_eq z]
      · rw [u_ne z]; exact h2 g (by omega)) (s := ((0 : Int32), jx_i τ 7 6 0)) ⟨_, rfl, k0, by rw [s_i_eq, u_eq rfl], fun g hg => by omega, fun g hg => by omega⟩ (X := fun s => some s.2) (fun s hs => by
    obtain ⟨τ', rfl, hk, _⟩ := hs
    have hP' : AP E F nS pN lN' ty W D tk τ' ρ := AP_c hP (KQ_mono hk (by decide) (by decide))
    show p_cAna_clear_7_s (nI F) τ' = _
    unfold p_cAna_clear_7_s
    rw [hP'.2.1, if_pos (nI_le (Nat.le_refl _) (by omega))]) (n := 100000000) (by omega)
  exact ⟨τ', e, hk, h76, fun g hg c hc => h1 g hg c hc, fun g hg => ⟨0, h2 g hg, by omega, fun m hm => by omega⟩⟩
theorem r_clear {F : Nat} {nS pN : Nat → Nat} {ty : Nat → Nat → Nat} {D : Nat → jDs} {ρ : jx_S} (hF : F ≤ 40) (hc : ∀ g, g < F → cnt (ty g) (pN g) ≤ 1000) : ∃ ρ', p_r_analyse ρ = p_r_analyse_35 1 ρ' ∧ KQ [146, 147] 106 [39] ρ ρ' ∧ RI F nS pN ty D 0 ρ' := by
  unfold p_r_analyse p_r_analyse_2
  obtain ⟨s1, ⟨ρ', rfl, hk, h1⟩, e⟩ := loop_invx (f := fun s : Int32 × jx_S => p_r_analyse_2_s s.1 s.2) (fun i s => ∃ ρ', s = (nI i, ρ') ∧ KQ [146, 147] 106 [39] ρ ρ' ∧ ∀ j, j < i → ρ'.1 146 j = 0) 40000 (fun i s hi h => by
    obtain ⟨ρ', rfl, hk, h1⟩ := h
    show ∃ s1, p_r_analyse_2_s (nI i) ρ' = _ ∧ _
    unfold p_r_analyse_2_s
    rw [if_neg (show ¬ (40000 : Int32) ≤ nI i from (nI_ge (by omega) (by omega) : ¬ nI 40000 ≤ nI i)), if_neg (nI_in (show i < 40000 by omega) (by omega)), if_neg (nI_in (show i < 40000 by omega) (by omega)), nI_clamp (show i < 2 ^ 31 by omega)]
    refine ⟨_, rfl, _, by rw [← nI_succ], KQ_trans hk (KQ_trans (KQ_i (by decide) (by decide)) (KQ_i (by decide) (by decide))), fun j hj => ?_⟩
    rw [s_i_ne (by decide), s_i_eq]
    by_cases z : j = i
    · rw [u_eq z]
    · rw [u_ne z]; exact h1 j (by omega)) (s := ((0 : Int32), ρ)) ⟨ρ, rfl, KQ_refl, fun j hj => by omega⟩ (X := fun s => p_r_analyse_35 1 (jx_i s.2 106 39 0)) (fun s hs => by
    obtain ⟨ρ', rfl, hk, _⟩ := hs
    show p_r_analyse_2_s (nI 40000) ρ' = _
    unfold p_r_analyse_2_s
    rw [if_pos (show (40000 : Int32) ≤ nI 40000 from (nI_le (Nat.le_refl _) (by omega) : nI 40000 ≤ nI 40000))]) (n := 100000000) (by omega)
  refine ⟨jx_i ρ' 106 39 0, e, KQ_trans hk (KQ_f (by decide)), by rw [s_i_eq, u_eq rfl]; rfl, fun g hg m hm => ?_⟩
  have := hc g hg
  rw [s_i_ne (by decide)]; exact h1 _ (by omega)
/-- what analysis leaves -/
def ANA (F : Nat) (nS pN : Nat → Nat) (ty V : Nat → Nat → Nat) (D : Nat → jDs) (τ ρ : jx_S) : Prop := (∃ n, n ≤ 40001 ∧ τ.1 7 6 = nI n ∧ ρ.1 106 39 = nI n) ∧ CV F pN ty V τ ∧ RV F pN ty V ρ ∧ (∀ g, g < F → ∀ c, c < cnt (ty g) (pN g) → V g c < 2) ∧ CJ F nS pN ty V D F τ ∧ RJ nS pN ty V D F ρ
theorem analyse_all {E : jEn} {F : Nat} {nS pN lN' : Nat → Nat} {ty : Nat → Nat → Nat} {W : Nat → Nat} {D : Nat → jDs} {tk : Nat → Nat} {τ ρ : jx_S} (hP : AP E F nS pN lN' ty W D tk τ ρ) (hm : ∀ g h, g ≤ h → h ≤ F → nS g ≤ nS h) (h0 : ∀ g, g < F → ∀ i, i < pN g → τ.1 59 (30 * g + i) = 0) (hT : τ.1 1 0 = 0) : ∃ V τ' ρ', p_cAna_analyse τ = some τ' ∧ p_r_analyse ρ = some ρ' ∧ KQ aCL 7 [6] τ τ' ∧ KQ aRL 106 [56, 39] ρ ρ' ∧ ANA F nS pN ty V D τ' ρ' := by
  have hF := hP.1
  obtain ⟨τ1, e1, k1, hC1⟩ := c_clear hP
  obtain ⟨ρ1, e2, k2, hR1⟩ := r_clear (nS := nS) (pN := pN) (ty := ty) (D := D) (ρ := ρ) hF (fun g hg => (hP.2.2.2.2 g hg).2.2.2.2.2.2.2.1)
  have hP1 : AP E F nS pN lN' ty W D tk τ1 ρ1 := AP_r (AP_c hP (KQ_mono k1 (by decide) (by decide))) (KQ_mono k2 (by decide) (by decide))
  obtain ⟨n, τ2, ρ2, f1, f2, f3, f4, f5, f6, f7, f8⟩ := rounds 40000 0 100000000 100000000 τ1 ρ1 hP1 rfl (Nat.zero_le _) (by omega) (by omega) hC1 hR1
  have hP2 : AP E F nS pN lN' ty W D tk τ2 ρ2 := AP_r (AP_c hP1 (KQ_mono f7 (by decide) (by decide))) (KQ_mono f8 (by decide) (by decide))
  have hCV : CV F pN ty (Vn nS pN ty D n) τ2 := CV_of (f := F) (c := 0) hP2 (show n < 1000000 by omega) (fun g hg c hc => by rw [if_pos (Or.inl hg)]; exact f5.2.1 g hg c hc) f5.1
  have hRV : RV F pN ty (Vn nS pN ty D n) ρ2 := fun g hg m hm => by
    rw [f6.2 g hg m hm, Vn_ext (fun q => f4 ⟨g, hg, q⟩)]
  have hV2 : ∀ g, g < F → ∀ c, c < cnt (ty g) (pN g) → Vn nS pN ty D n g c < 2 := fun g hg c hc => (Vn_le hP hg hc).2.2
  obtain ⟨τ3, e3, k3, hJ⟩ := c_judge hP2 hm hCV hV2 (LeV_n hP n) (fun g hg i hi => by
    rw [f7.1 59 (by decide) (by decide), k1.1 59 (by decide) (by decide)]; exact h0 g hg i hi)
  obtain ⟨ρ3, e4, k4, hJ2⟩ := r_judge hP2 hm hRV hV2 (LeV_n hP n)
  refine ⟨Vn nS pN ty D n, τ3, ρ3, ?_, ?_, KQ_trans (KQ_mono k1 (by decide) (by decide)) (KQ_trans (KQ_mono f7 (by decide) (by decide)) (KQ_mono k3 (by decide) (by decide))), KQ_trans (KQ_mono k2 (by decide) (by decide)) (KQ_trans (KQ_mono f8 (by decide) (by decide)) (KQ_mono k4 (by decide) (by decide))), ⟨n + 1, by omega, ?_, ?_⟩, ?_, ?_, hV2, hJ, hJ2⟩
  · unfold p_cAna_analyse
    rw [if_pos (by unfold v_cFau_isTold; rw [hT]; rfl), e1, Option.bind_some]
    exact f1.trans e3
  · rw [e2]
    exact f2.trans e4
  · rw [k3.2.1 6 (by decide)]; exact f5.1
  · rw [k4.2.1 39 (by decide)]; exact f6.1
  · exact CV_keep hCV (k3.1 63 (by decide) (by decide)) (k3.2.1 6 (by decide))
  · intro g hg m hm
    rw [k4.1 146 (by decide) (by decide)]; exact hRV g hg m hm
