/-! ANALYSIS, 15: what a case binds, in the reference. -/
theorem r_great {E : jEn} {F : Nat} {nS pN lN' : Nat → Nat} {ty : Nat → Nat → Nat} {W : Nat → Nat} {D : Nat → jDs} {tk : Nat → Nat} {τ ρ : jx_S} {f : Nat} (hP : AP E F nS pN lN' ty W D tk τ ρ) (hf : f < F) : ∃ ρ', p_r_greatest (nI f) ρ = some ρ' ∧ KQ [149] 106 [56] ρ ρ' ∧ ρ'.1 106 56 = nI f ∧ ∀ s, s < lN' f → ρ'.1 149 s = nI (tyQ (ty f s) - 1) := by
  have hF := hP.1
  obtain ⟨_, _, _, c, d⟩ := hP.2.2.2.2 f hf
  have hl30 := d.2.2.1
  unfold p_r_greatest p_r_greatest_7
  obtain ⟨s1, ⟨ρ', rfl, hk, h56, h⟩, e⟩ := loop_invx (f := fun s : Int32 × Int32 × jx_S => p_r_greatest_7_s s.1 s.2.1 s.2.2) (fun i s => ∃ ρ', s = (nI f, nI i, ρ') ∧ KQ [149] 106 [56] ρ ρ' ∧ ρ'.1 106 56 = nI f ∧ ∀ s, s < i → ρ'.1 149 s = nI (tyQ (ty f s) - 1)) (lN' f) (fun i s hi h => by
    obtain ⟨ρ', rfl, hk, h56, h⟩ := h
    have e129 : ρ'.1 129 = ρ.1 129 := hk.1 129 (by decide) (by decide)
    have e137 : ρ'.1 137 = ρ.1 137 := hk.1 137 (by decide) (by decide)
    have e30 : (30 : Int32) * nI f + nI i = nI (30 * f + i) := by rw [show (30 : Int32) = nI 30 from rfl, nI_mul, nI_add]
    have hq := tyQ_le (ty f i)
    show ∃ s1, p_r_greatest_7_s (nI f) (nI i) ρ' = _ ∧ _
    unfold p_r_greatest_7_s
    rw [if_neg (nI_in (show f < 40 by omega) (by omega)), nI_clamp (show f < 2 ^ 31 by omega), e129, c.2.1, if_neg (nI_ge hi (by omega)), e30, if_neg (nI_in (show 30 * f + i < 1200 by omega) (by omega)), if_neg (nI_in (show i < 32 by omega) (by omega)), nI_clamp (show 30 * f + i < 2 ^ 31 by omega), nI_clamp (show i < 2 ^ 31 by omega), e137, c.2.2.2.2.2.1 i hi, r_points ρ' (d.2.2.2.2 i hi), show nI (tyQ (ty f i)) - (1 : Int32) = nI (tyQ (ty f i) - 1) from nI_sub (b := 1) (by omega)]
    refine ⟨_, rfl, _, by rw [← nI_succ], KQ_trans hk (KQ_i (by decide) (by decide)), by rw [s_i_ne (by decide)]; exact h56, fun s hs => ?_⟩
    rw [s_i_eq]
    by_cases z : s = i
    · rw [u_eq z, z]
    · rw [u_ne z]; exact h s (by omega)) (s := (nI f, (0 : Int32), jx_i ρ 106 56 (nI f))) ⟨_, rfl, KQ_f (by decide), by rw [s_i_eq, u_eq rfl], fun s hs => by omega⟩ (X := fun s => some s.2.2) (fun s hs => by
    obtain ⟨ρ', rfl, hk, h56, h⟩ := hs
    have e129 : ρ'.1 129 = ρ.1 129 := hk.1 129 (by decide) (by decide)
    show p_r_greatest_7_s (nI f) (nI (lN' f)) ρ' = _
    unfold p_r_greatest_7_s
    rw [if_neg (nI_in (show f < 40 by omega) (by omega)), nI_clamp (show f < 2 ^ 31 by omega), e129, c.2.1, if_pos (nI_le (Nat.le_refl _) (by omega))]) (n := 100000000) (by omega)
  exact ⟨ρ', e, hk, h56, h⟩
def rA42 : Int32 × Int32 × Int32 × Int32 × Int32 × jx_S → Option ((Int32 × Int32 × Int32 × Int32 × Int32 × jx_S) ⊕ ((Int32 × Int32 × Int32 × jx_S) ⊕ ((Int32 × Int32 × jx_S) ⊕ (Int32 × jx_S)))) := fun s => p_r_round_42_s s.1 s.2.1 s.2.2.1 s.2.2.2.1 s.2.2.2.2.1 (s.2.2.2.2.2)
theorem r_digits {f : Nat} {t : Nat → Nat} (x1 x3 : Int32) (hf : f < 40) : ∀ p c ρ, p ≤ 8 → c < 2 ^ 31 → (∀ i, i < p → t i < 14 ∧ ρ.1 135 (8 * f + i) = nI (t i)) → ∃ ρ', KQ [149] 106 [] ρ ρ' ∧ (∀ s, ρ'.1 149 s = if s < p then nI (dig t p c s) else ρ.1 149 s) ∧ ∃ c', ∀ N, jx_loop (N + p) rA42 (x1, nI f, x3, nI c, nI p - 1, ρ) = jx_loop N rA42 (x1, nI f, x3, c', -1, ρ') := by
  intro p
  induction p with
  | zero => intro c ρ _ hc h; exact ⟨ρ, KQ_refl, fun s => by rw [if_neg (by omega)], nI c, fun N => rfl⟩
  | succ p ih =>
    intro c ρ hp hc h
    have hq := tyQ_le (t p)
    obtain ⟨ρ', hk, h1, c', h2⟩ := ih (c / tyQ (t p)) (jx_i ρ 149 p (nI (c % tyQ (t p)))) (by omega) (Nat.lt_of_le_of_lt (Nat.div_le_self _ _) hc) (fun i hi => by rw [s_i_ne (by decide)]; exact h i (by omega))
    refine ⟨ρ', KQ_trans (KQ_i (by decide) (by decide)) hk, fun s => ?_, c', fun N => ?_⟩
    · rw [h1 s, s_i_eq]
      show _ = if s < p + 1 then nI (if s = p then c % tyQ (t p) else dig t p (c / tyQ (t p)) s) else _
      by_cases z : s < p
      · rw [if_pos z, if_pos (by omega), if_neg (by omega)]
      · rw [if_neg z]
        by_cases y : s = p
        · rw [u_eq y, if_pos (by omega), if_pos y]
        · rw [u_ne y, if_neg (by omega)]
    · rw [show N + (p + 1) = (N + p) + 1 by omega, jx_loop_inl (s1 := (x1, nI f, x3, nI (c / tyQ (t p)), nI p - 1, jx_i ρ 149 p (nI (c % tyQ (t p))))), h2]
      show p_r_round_42_s x1 (nI f) x3 (nI c) (nI (p + 1) - 1) ρ = _
      rw [nI_pred]
      unfold p_r_round_42_s
      have e8 : (8 : Int32) * nI f + nI p = nI (8 * f + p) := by rw [show (8 : Int32) = nI 8 from rfl, nI_mul, nI_add]
      rw [if_neg (nI_pos (by omega)), e8, if_neg (nI_in (show 8 * f + p < 320 by omega) (by omega)), nI_clamp (show 8 * f + p < 2 ^ 31 by omega), (h p (by omega)).2, r_points ρ (h p (by omega)).1, if_neg (nI_ne0 (by omega) (by omega)), if_neg (nI_in (show p < 32 by omega) (by omega)), if_neg (nI_ne0 (by omega) (by omega)), nI_clamp (show p < 2 ^ 31 by omega), pk_rem hc (by omega) (by omega), pk_div hc (by omega) (by omega), Int32.sub_eq_add_neg]
