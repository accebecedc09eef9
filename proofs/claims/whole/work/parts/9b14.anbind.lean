/-! ANALYSIS, 14: what a case binds, in the class. -/
theorem c_great {E : jEn} {F : Nat} {nS pN lN' : Nat → Nat} {ty : Nat → Nat → Nat} {W : Nat → Nat} {D : Nat → jDs} {tk : Nat → Nat} {τ ρ : jx_S} {f : Nat} (hP : AP E F nS pN lN' ty W D tk τ ρ) (hf : f < F) : ∃ τ', p_cAna_bindGreatest (nI f) τ = some τ' ∧ KQ [69] 7 [] τ τ' ∧ ∀ s, s < lN' f → τ'.1 69 s = nI (tyQ (ty f s) - 1) := by
  have hF := hP.1
  obtain ⟨_, _, c, _, d⟩ := hP.2.2.2.2 f hf
  have hl30 := d.2.2.1
  unfold p_cAna_bindGreatest p_cAna_bindGreatest_2
  obtain ⟨s1, ⟨τ', rfl, hk, h⟩, e⟩ := loop_invx (f := fun s : Int32 × Int32 × jx_S => p_cAna_bindGreatest_2_s s.1 s.2.1 s.2.2) (fun i s => ∃ τ', s = (nI f, nI i, τ') ∧ KQ [69] 7 [] τ τ' ∧ ∀ s, s < i → τ'.1 69 s = nI (tyQ (ty f s) - 1)) (lN' f) (fun i s hi h => by
    obtain ⟨τ', rfl, hk, h⟩ := h
    have e47 : τ'.1 47 = τ.1 47 := hk.1 47 (by decide) (by decide)
    have e57 : τ'.1 57 = τ.1 57 := hk.1 57 (by decide) (by decide)
    show ∃ s1, p_cAna_bindGreatest_2_s (nI f) (nI i) τ' = _ ∧ _
    unfold p_cAna_bindGreatest_2_s v_cFun_typeOf
    rw [jI_at_in (by omega) (by omega), e47, c.2.1, if_neg (nI_ge hi (by omega)), show nI f * (30 : Int32) = nI (f * 30) from nI_mul f 30, nI_add, jI_at_in (by omega) (by omega), show f * 30 + i = 30 * f + i by omega, e57, c.2.2.2.2.2 i hi, c_points τ' (d.2.2.2.2 i hi)]
    have hq := tyQ_le (ty f i)
    rw [show nI (tyQ (ty f i)) - (1 : Int32) = nI (tyQ (ty f i) - 1) from nI_sub (b := 1) (by omega)]
    refine ⟨_, rfl, _, by rw [← nI_succ], KQ_trans hk (KQ_p (by decide) (by decide)), fun s hs => ?_⟩
    rw [s_p_eq, jI_up_in (by omega) (by omega)]
    by_cases z : s = i
    · rw [u_eq z, z]
    · rw [u_ne z]; exact h s (by omega)) (s := (nI f, (0 : Int32), τ)) ⟨τ, rfl, KQ_refl, fun s hs => by omega⟩ (X := fun s => some s.2.2) (fun s hs => by
    obtain ⟨τ', rfl, hk, h⟩ := hs
    have e47 : τ'.1 47 = τ.1 47 := hk.1 47 (by decide) (by decide)
    show p_cAna_bindGreatest_2_s (nI f) (nI (lN' f)) τ' = _
    unfold p_cAna_bindGreatest_2_s
    rw [jI_at_in (by omega) (by omega), e47, c.2.1, if_pos (nI_le (Nat.le_refl _) (by omega))]) (n := 100000000) (by omega)
  exact ⟨τ', e, hk, h⟩
def cA22 : Int32 × Int32 × Int32 × jx_S → Option ((Int32 × Int32 × Int32 × jx_S) ⊕ jx_S) := fun s => p_cAna_bindCase_22_s s.1 s.2.1 s.2.2.1 s.2.2.2
theorem c_digits {f : Nat} {t : Nat → Nat} (hf : f < 40) : ∀ p c τ, p ≤ 8 → c < 2 ^ 31 → (∀ i, i < p → t i < 14 ∧ τ.1 57 (30 * f + i) = nI (t i)) → ∃ τ', KQ [69] 7 [] τ τ' ∧ (∀ s, τ'.1 69 s = if s < p then nI (dig t p c s) else τ.1 69 s) ∧ ∃ c', ∀ N, jx_loop (N + p) cA22 (nI f, nI c, nI p - 1, τ) = jx_loop N cA22 (nI f, c', -1, τ') := by
  intro p
  induction p with
  | zero => intro c τ _ hc h; exact ⟨τ, KQ_refl, fun s => by rw [if_neg (by omega)], nI c, fun N => rfl⟩
  | succ p ih =>
    intro c τ hp hc h
    have hq := tyQ_le (t p)
    obtain ⟨τ', hk, h1, c', h2⟩ := ih (c / tyQ (t p)) (jI_put 30 τ 69 (nI p) (nI (c % tyQ (t p)))) (by omega) (Nat.lt_of_le_of_lt (Nat.div_le_self _ _) hc) (fun i hi => by rw [s_p_ne (by decide)]; exact h i (by omega))
    refine ⟨τ', KQ_trans (KQ_p (by decide) (by decide)) hk, fun s => ?_, c', fun N => ?_⟩
    · rw [h1 s, s_p_eq, jI_up_in (by omega) (by omega)]
      show _ = if s < p + 1 then nI (if s = p then c % tyQ (t p) else dig t p (c / tyQ (t p)) s) else _
      by_cases z : s < p
      · rw [if_pos z, if_pos (by omega), if_neg (by omega)]
      · rw [if_neg z]
        by_cases y : s = p
        · rw [u_eq y, if_pos (by omega), if_pos y]
        · rw [u_ne y, if_neg (by omega)]
    · rw [show N + (p + 1) = (N + p) + 1 by omega, jx_loop_inl (s1 := (nI f, nI (c / tyQ (t p)), nI p - 1, jI_put 30 τ 69 (nI p) (nI (c % tyQ (t p))))), h2]
      show p_cAna_bindCase_22_s (nI f) (nI c) (nI (p + 1) - 1) τ = _
      rw [nI_pred]
      unfold p_cAna_bindCase_22_s v_cFun_typeOf
      rw [if_neg (nI_pos (by omega)), show nI f * (30 : Int32) = nI (f * 30) from nI_mul f 30, nI_add, jI_at_in (by omega) (by omega), show f * 30 + p = 30 * f + p by omega, (h p (by omega)).2, c_points τ (h p (by omega)).1, if_pos (show (1 : Int32) < nI (tyQ (t p)) from nI_lt (a := 1) (by omega) (by omega)), if_neg (nI_ne0 (by omega) (by omega)), if_neg (nI_ne0 (by omega) (by omega)), pk_rem hc (by omega) (by omega), pk_div hc (by omega) (by omega), Int32.sub_eq_add_neg]
theorem c_bindCase {E : jEn} {F : Nat} {nS pN lN' : Nat → Nat} {ty : Nat → Nat → Nat} {W : Nat → Nat} {D : Nat → jDs} {tk : Nat → Nat} {τ ρ : jx_S} {f c : Nat} (hP : AP E F nS pN lN' ty W D tk τ ρ) (hf : f < F) (hc : c < 2 ^ 31) : ∃ τ', p_cAna_bindCase (nI f) (nI c) τ = some τ' ∧ KQ [69] 7 [] τ τ' ∧ ∀ s, s < lN' f → τ'.1 69 s = nI (bdc pN ty f c s) := by
  have hF := hP.1
  obtain ⟨τ1, e1, k1, h1⟩ := c_great hP hf
  obtain ⟨_, _, c0, _, d⟩ := (AP_c hP (KQ_mono k1 (by decide) (by decide))).2.2.2.2 f hf
  obtain ⟨τ2, k2, h2, c', e2⟩ := c_digits (t := ty f) (show f < 40 by omega) (pN f) c τ1 d.1 hc (fun i hi => ⟨d.2.2.2.2 i (by omega), c0.2.2.2.2.2 i (by omega)⟩)
  refine ⟨τ2, ?_, KQ_trans k1 k2, fun s hs => ?_⟩
  · unfold p_cAna_bindCase
    rw [e1, Option.bind_some, jI_at_in (by omega) (by omega), c0.1]
    unfold p_cAna_bindCase_22
    show jx_loop 100000000 cA22 _ = _
    have h8 := d.1
    rw [show 100000000 = (100000000 - pN f - 1 + 1) + pN f by omega, e2]
    refine jx_loop_out (X := some τ2) ?_ _
    show p_cAna_bindCase_22_s (nI f) c' (-1) τ2 = _
    unfold p_cAna_bindCase_22_s
    rw [if_pos (by decide)]
  · rw [h2 s]
    unfold bdc
    by_cases z : s < pN f
    · rw [if_pos z, if_pos z]
    · rw [if_neg z, if_neg z, h1 s hs]
