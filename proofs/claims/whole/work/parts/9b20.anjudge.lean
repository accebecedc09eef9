/-! ANALYSIS, 20: what is strict: parameters. -/
def cwA (ty : Nat → Nat → Nat) (f i j : Nat) : Nat := if j = i then 0 else tyQ (ty f j) - 1
theorem cwA_lt {ty : Nat → Nat → Nat} {f i j : Nat} : cwA ty f i j < tyQ (ty f j) := by
  unfold cwA
  have := tyQ_le (ty f j)
  split <;> omega
def cw (pN : Nat → Nat) (ty : Nat → Nat → Nat) (f i : Nat) : Nat := nm (ty f) (cwA ty f i) (pN f)
theorem cw_lt {pN : Nat → Nat} {ty : Nat → Nat → Nat} {f i : Nat} : cw pN ty f i < cnt (ty f) (pN f) := nm_lt _ (fun _ _ => cwA_lt)
def spar (pN : Nat → Nat) (ty V : Nat → Nat → Nat) (f i : Nat) : Nat := if ty f i < 2 ∧ V f (cw pN ty f i) = 0 then 1 else 0
theorem nm_le {t a : Nat → Nat} {p : Nat} (hp : p ≤ 8) (h : ∀ i, i < p → a i < tyQ (t i)) : nm t a p < 1679616 := Nat.lt_of_lt_of_le (nm_lt p h) (cnt_lt t hp)
theorem c_without {E : jEn} {F : Nat} {nS pN lN' : Nat → Nat} {ty : Nat → Nat → Nat} {W : Nat → Nat} {D : Nat → jDs} {tk : Nat → Nat} {τ ρ : jx_S} (hP : AP E F nS pN lN' ty W D tk τ ρ) {f i : Nat} (hf : f < F) (hi : i < pN f) : p_cAna_caseWithout (nI f) (nI i) τ = some (nI (cw pN ty f i), τ) := by
  have hF := hP.1
  obtain ⟨_, _, c, _, d⟩ := hP.2.2.2.2 f hf
  have h8 := d.1
  unfold p_cAna_caseWithout p_cAna_caseWithout_5
  refine jx_loop_for (fun j => (nI f, nI i, nI (nm (ty f) (cwA ty f i) j), nI j, τ)) (pN f) (fun j hj => ?_) ?_ (by omega)
  · show p_cAna_caseWithout_5_s (nI f) (nI i) (nI (nm (ty f) (cwA ty f i) j)) (nI j) τ = _
    have hq := tyQ_le (ty f j)
    unfold p_cAna_caseWithout_5_s p_cAna_caseWithout_54 v_cFun_typeOf
    rw [jI_at_in (by omega) (by omega), c.1, if_neg (nI_ge hj (by omega)), show nI f * (30 : Int32) = nI (f * 30) from nI_mul f 30, nI_add, jI_at_in (by omega) (by omega), show f * 30 + j = 30 * f + j by omega, c.2.2.2.2.2 j (by omega), c_points τ (d.2.2.2.2 j (by omega)), nI_mul, show nI (tyQ (ty f j)) - (1 : Int32) = nI (tyQ (ty f j) - 1) from nI_sub (b := 1) (by omega), ← nI_succ]
    show _ = some (Sum.inl (nI f, nI i, nI (nm (ty f) (cwA ty f i) j * tyQ (ty f j) + (if j = i then 0 else tyQ (ty f j) - 1)), nI (j + 1), τ))
    by_cases z : j = i
    · rw [if_neg (show ¬ ¬ nI j = nI i by rw [z]; exact fun q => q rfl), if_pos z, Nat.add_zero, show nI (nm (ty f) (cwA ty f i) j * tyQ (ty f j)) + (0 : Int32) = nI (nm (ty f) (cwA ty f i) j * tyQ (ty f j) + 0) from nI_add _ 0, Nat.add_zero]
    · rw [if_pos (show ¬ nI j = nI i from fun q => z ((nI_eq (by omega) (by omega)).1 q)), if_neg z, nI_add]
  · show p_cAna_caseWithout_5_s (nI f) (nI i) (nI (nm (ty f) (cwA ty f i) (pN f))) (nI (pN f)) τ = _
    unfold p_cAna_caseWithout_5_s
    rw [jI_at_in (by omega) (by omega), c.1, if_pos (nI_le (Nat.le_refl _) (by omega))]
    rfl
theorem c_jpar {E : jEn} {F : Nat} {nS pN lN' : Nat → Nat} {ty : Nat → Nat → Nat} {W : Nat → Nat} {D : Nat → jDs} {tk : Nat → Nat} {τ ρ : jx_S} (hP : AP E F nS pN lN' ty W D tk τ ρ) {V : Nat → Nat → Nat} {f : Nat} (hf : f < F) (hV : CV F pN ty V τ) (hV2 : ∀ g, g < F → ∀ c, c < cnt (ty g) (pN g) → V g c < 2) (h0 : ∀ i, i < pN f → τ.1 59 (30 * f + i) = 0) : ∃ τ', p_cAna_judgeParameters (nI f) τ = some τ' ∧ KQ [59] 7 [] τ τ' ∧ (∀ i, i < pN f → τ'.1 59 (30 * f + i) = nI (spar pN ty V f i)) ∧ ∀ j, (j < 30 * f ∨ 30 * f + pN f ≤ j) → τ'.1 59 j = τ.1 59 j := by
  have hF := hP.1
  obtain ⟨_, _, _, _, d⟩ := hP.2.2.2.2 f hf
  have h8 := d.1
  unfold p_cAna_judgeParameters p_cAna_judgeParameters_2
  obtain ⟨s1, ⟨τ', rfl, hk, h1, h2, h3⟩, e⟩ := loop_invx (f := fun s : Int32 × Int32 × jx_S => p_cAna_judgeParameters_2_s s.1 s.2.1 s.2.2) (fun i s => ∃ τ', s = (nI f, nI i, τ') ∧ KQ [59] 7 [] τ τ' ∧ (∀ j, j < i → τ'.1 59 (30 * f + j) = nI (spar pN ty V f j)) ∧ (∀ j, i ≤ j → j < pN f → τ'.1 59 (30 * f + j) = 0) ∧ ∀ j, (j < 30 * f ∨ 30 * f + pN f ≤ j) → τ'.1 59 j = τ.1 59 j) (pN f) (fun i s hi h => by
    obtain ⟨τ', rfl, hk, h1, h2, h3⟩ := h
    have hP' : AP E F nS pN lN' ty W D tk τ' ρ := AP_c hP (KQ_mono hk (by decide) (by decide))
    obtain ⟨_, _, c, _, _⟩ := hP'.2.2.2.2 f hf
    have hV' : CV F pN ty V τ' := CV_keep hV (hk.1 63 (by decide) (by decide)) (hk.2.1 6 (by decide))
    have ht := d.2.2.2.2 i (by omega)
    show ∃ s1, p_cAna_judgeParameters_2_s (nI f) (nI i) τ' = _ ∧ _
    unfold p_cAna_judgeParameters_2_s p_cAna_judgeParameters_55 p_cFun_setStrict
    rw [jI_at_in (by omega) (by omega), c.1, if_neg (nI_ge hi (by omega))]
    unfold v_cFun_typeOf
    rw [show nI f * (30 : Int32) = nI (f * 30) from nI_mul f 30, nI_add, jI_at_in (by omega) (by omega), show f * 30 + i = 30 * f + i by omega, c.2.2.2.2.2 i (by omega), c_isBase τ' ht, c_without hP' hf hi, Option.bind_some, ← nI_succ]
    have hcV := hV' f hf (cw pN ty f i) cw_lt
    have hlt := hV2 f hf (cw pN ty f i) cw_lt
    dsimp only
    rw [hcV]
    have skip : spar pN ty V f i = 0 → ∃ τ'', ((nI f, nI (i + 1), τ') : Int32 × Int32 × jx_S) = (nI f, nI (i + 1), τ'') ∧ KQ [59] 7 [] τ τ'' ∧ (∀ j, j < i + 1 → τ''.1 59 (30 * f + j) = nI (spar pN ty V f j)) ∧ (∀ j, i + 1 ≤ j → j < pN f → τ''.1 59 (30 * f + j) = 0) ∧ ∀ j, (j < 30 * f ∨ 30 * f + pN f ≤ j) → τ''.1 59 j = τ.1 59 j := fun hs => by
      refine ⟨τ', rfl, hk, fun j hj => ?_, fun j j1 j2 => h2 j (by omega) j2, h3⟩
      by_cases y : j = i
      · subst y; rw [hs, h2 j (Nat.le_refl _) hi]; rfl
      · exact h1 j (by omega)
    by_cases z : ty f i < 2
    · rw [if_pos z, if_neg (by decide)]
      by_cases y : V f (cw pN ty f i) = 0
      · rw [if_neg (show ¬ ¬ nI (V f (cw pN ty f i)) = 0 by rw [y]; exact fun q => q rfl)]
        refine ⟨_, rfl, _, rfl, KQ_trans hk (KQ_p (by decide) (by decide)), fun j hj => ?_, fun j j1 j2 => ?_, fun j hj => ?_⟩
        · rw [s_p_eq, jI_up_in (by omega) (by omega)]
          by_cases w : j = i
          · subst w
            rw [u_eq rfl]
            unfold spar
            rw [if_pos ⟨z, y⟩]; rfl
          · rw [u_ne (by omega)]; exact h1 j (by omega)
        · rw [s_p_eq, jI_up_in (by omega) (by omega), u_ne (by omega)]; exact h2 j (by omega) j2
        · rw [s_p_eq, jI_up_in (by omega) (by omega), u_ne (by omega)]; exact h3 j hj
      · rw [if_pos (nI_ne0 (by omega) (by omega))]
        exact ⟨_, rfl, skip (if_neg (fun q => y q.2))⟩
    · rw [if_neg z, if_pos rfl]
      exact ⟨_, rfl, skip (if_neg (fun q => z q.1))⟩) (s := (nI f, (0 : Int32), τ)) ⟨τ, rfl, KQ_refl, fun j hj => by omega, fun j j1 j2 => h0 j j2, fun _ _ => rfl⟩ (X := fun s => some s.2.2) (fun s hs => by
    obtain ⟨τ', rfl, hk, _⟩ := hs
    have hP' : AP E F nS pN lN' ty W D tk τ' ρ := AP_c hP (KQ_mono hk (by decide) (by decide))
    obtain ⟨_, _, c, _, _⟩ := hP'.2.2.2.2 f hf
    show p_cAna_judgeParameters_2_s (nI f) (nI (pN f)) τ' = _
    unfold p_cAna_judgeParameters_2_s
    rw [jI_at_in (by omega) (by omega), c.1, if_pos (nI_le (Nat.le_refl _) (by omega))]) (n := 100000000) (by omega)
  exact ⟨τ', e, hk, h1, h3⟩
/-- the reference's number of the case without one, and its judgement -/
def rA75 : Int32 × Int32 × Int32 × Int32 × jx_S → Option ((Int32 × Int32 × Int32 × Int32 × jx_S) ⊕ ((Int32 × Int32 × jx_S) ⊕ ((Int32 × jx_S) ⊕ jx_S))) := fun s => p_r_analyse_75_s s.1 s.2.1 s.2.2.1 s.2.2.2.1 s.2.2.2.2
theorem r_jone {E : jEn} {F : Nat} {nS pN lN' : Nat → Nat} {ty : Nat → Nat → Nat} {W : Nat → Nat} {D : Nat → jDs} {tk : Nat → Nat} {τ ρ : jx_S} (hP : AP E F nS pN lN' ty W D tk τ ρ) {V : Nat → Nat → Nat} {f i : Nat} (hf : f < F) (hi : i < pN f) (hV : RV F pN ty V ρ) (hV2 : ∀ g, g < F → ∀ c, c < cnt (ty g) (pN g) → V g c < 2) : p_r_analyse_75 (nI f) (nI i) 0 0 ρ = some (.inl (nI f, nI (i + 1), jx_i ρ 136 (8 * f + i) (nI (spar pN ty V f i)))) := by
  have hF := hP.1
  obtain ⟨_, _, _, c, d⟩ := hP.2.2.2.2 f hf
  have h8 := d.1
  have e8 : ∀ j, (8 : Int32) * nI f + nI j = nI (8 * f + j) := fun j => by rw [show (8 : Int32) = nI 8 from rfl, nI_mul, nI_add]
  unfold p_r_analyse_75
  refine jx_loop_for (f := rA75) (fun j => (nI f, nI i, nI (nm (ty f) (cwA ty f i) j), nI j, ρ)) (pN f) (fun j hj => ?_) ?_ (by omega)
  · show p_r_analyse_75_s (nI f) (nI i) (nI (nm (ty f) (cwA ty f i) j)) (nI j) ρ = _
    have hq := tyQ_le (ty f j)
    unfold p_r_analyse_75_s p_r_analyse_122
    rw [if_neg (nI_in (show f < 40 by omega) (by omega)), nI_clamp (show f < 2 ^ 31 by omega), c.1, if_neg (nI_ge hj (by omega)), e8, if_neg (nI_in (show 8 * f + j < 320 by omega) (by omega)), nI_clamp (show 8 * f + j < 2 ^ 31 by omega), c.2.2.2.2.2.2 j hj, r_points ρ (d.2.2.2.2 j (by omega)), nI_mul, show nI (tyQ (ty f j)) - (1 : Int32) = nI (tyQ (ty f j) - 1) from nI_sub (b := 1) (by omega), ← nI_succ]
    show _ = some (Sum.inl (nI f, nI i, nI (nm (ty f) (cwA ty f i) j * tyQ (ty f j) + (if j = i then 0 else tyQ (ty f j) - 1)), nI (j + 1), ρ))
    by_cases z : j = i
    · rw [if_neg (show ¬ ¬ nI j = nI i by rw [z]; exact fun q => q rfl), if_pos z, Nat.add_zero, show nI (nm (ty f) (cwA ty f i) j * tyQ (ty f j)) + (0 : Int32) = nI (nm (ty f) (cwA ty f i) j * tyQ (ty f j) + 0) from nI_add _ 0, Nat.add_zero]
    · rw [if_pos (show ¬ nI j = nI i from fun q => z ((nI_eq (by omega) (by omega)).1 q)), if_neg z, nI_add]
  · show p_r_analyse_75_s (nI f) (nI i) (nI (nm (ty f) (cwA ty f i) (pN f))) (nI (pN f)) ρ = _
    have e1000 : (1000 : Int32) * nI f + nI (nm (ty f) (cwA ty f i) (pN f)) = nI (1000 * f + cw pN ty f i) := by rw [show (1000 : Int32) = nI 1000 from rfl, nI_mul, nI_add]; rfl
    have hcl : cw pN ty f i < cnt (ty f) (pN f) := cw_lt
    have hc1000 := d.2.2.2.1
    have hvl := hV2 f hf _ hcl
    have hni : ¬ (nI (8 * f + i) < 0 ∨ 320 ≤ 8 * f + i) := fun z => by
      rcases z with z | z
      · exact nI_pos (by omega) z
      · omega
    unfold p_r_analyse_75_s p_r_analyse_176 p_r_analyse_177
    rw [if_neg (nI_in (show f < 40 by omega) (by omega)), nI_clamp (show f < 2 ^ 31 by omega), c.1, if_pos (nI_le (Nat.le_refl _) (by omega)), e8, if_neg (nI_in (show 8 * f + i < 320 by omega) (by omega)), nI_clamp (show 8 * f + i < 2 ^ 31 by omega), c.2.2.2.2.2.2 i hi, e1000, if_neg (nI_in (show 1000 * f + cw pN ty f i < 40000 by omega) (by omega)), nI_clamp (show 1000 * f + cw pN ty f i < 2 ^ 31 by omega), hV f hf _ hcl, if_neg hni, if_neg hni, if_pos (show (0 : Int32) = 0 ∨ (0 : Int32) = 1 from Or.inl rfl), if_pos (show (1 : Int32) = 0 ∨ (1 : Int32) = 1 from Or.inr rfl), ← nI_succ]
    have ht := d.2.2.2.2 i (by omega)
    by_cases z : ty f i < 2
    · rw [if_neg (show ¬ (2 : Int32) ≤ nI (ty f i) from (nI_ge (by omega) (by omega) : ¬ nI 2 ≤ nI (ty f i)))]
      by_cases y : V f (cw pN ty f i) = 0
      · rw [if_neg (show ¬ ¬ nI (V f (cw pN ty f i)) = 0 by rw [y]; exact fun q => q rfl), show spar pN ty V f i = 1 from if_pos ⟨z, y⟩]; rfl
      · rw [if_pos (nI_ne0 (by omega) (by omega)), show spar pN ty V f i = 0 from if_neg (fun q => y q.2)]; rfl
    · rw [if_pos (show (2 : Int32) ≤ nI (ty f i) from (nI_le (by omega) (by omega) : nI 2 ≤ nI (ty f i))), show spar pN ty V f i = 0 from if_neg (fun q => z q.1)]; rfl
