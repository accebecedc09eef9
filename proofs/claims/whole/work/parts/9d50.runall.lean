/-! RUNS, 50: a whole run, in both. -/
def h00 : jHp := ((0, fun _ => 0, fun _ => 0, fun _ => 0, fun _ => (0, 0)), (0, fun _ => (0, 0), fun _ => (0, 0)), (0, fun _ => (0, 0), fun _ => 0, fun _ => 0, fun _ => 0, fun _ => 0), (0, fun _ => (0, 0)), (0, fun _ => 0, fun _ => 0, 0), (fun _ _ => (0, 0), fun _ _ => False), fun _ _ => 0)
def s00 : jSt := (0, fun _ => 0, fun _ => 0, fun _ => 0, fun _ => 0, fun _ _ => (0, 0))
theorem RU0_0 {E : jEn} {G : jGh} {F : Nat} {nS pN bN lN' : Nat → Nat} {ty : Nat → Nat → Nat} {W : Nat → Nat} {D : Nat → jDs} {tk LO : Nat → Nat} {sl sp : Nat → Nat → Nat} {bt fc lm : Nat} {τ ρ : jx_S} (h : RP E G F nS pN bN lN' ty W D tk LO sl sp τ ρ) (hlm : lm ≤ 50000) (c9 : ∀ j, 11 ≤ j → j ≤ 16 → τ.1 9 j = 0) (c11 : τ.1 8 11 = 0) (c12 : τ.1 8 12 = nI lm) (c13 : τ.1 8 13 = ρ.1 106 86 ∧ (τ.1 8 13 = 0 ∨ τ.1 8 13 = 1)) (c14 : τ.1 8 14 = 0) (c71 : ∀ j, j < 10 → τ.1 71 j = 0) (d0 : ∀ j, j ∈ [62, 67, 70, 74, 76, 82, 83, 85, 87, 88, 91, 92, 93, 95, 96] → ρ.1 106 j = 0) (d89 : ρ.1 106 89 = nI lm) : RU0 E G F nS pN bN lN' ty W D tk LO sl sp h00 s00 0 (0, 0) bt fc 0 lm 0 τ ρ := by
  refine ⟨h, ⟨⟨c9 12 (by omega) (by omega), d0 67 (by decide), fun i hi => absurd hi (Nat.not_lt_zero i)⟩, ⟨c9 11 (by omega) (by omega), d0 70 (by decide), fun i hi => absurd hi (Nat.not_lt_zero i)⟩, ⟨c9 16 (by omega) (by omega), d0 74 (by decide), fun i hi => absurd hi (Nat.not_lt_zero i)⟩, ⟨c9 15 (by omega) (by omega), d0 76 (by decide), fun i hi => absurd hi (Nat.not_lt_zero i)⟩, c9 14 (by omega) (by omega), d0 62 (by decide), fun i hi => absurd hi (Nat.not_lt_zero i)⟩, ⟨⟨c11, d0 82 (by decide), Nat.zero_le _⟩, d0 85 (by decide), fun d hd => absurd hd (Nat.not_lt_zero d)⟩, ⟨c14, d0 87 (by decide), ⟨c71 0 (by omega), d0 88 (by decide), Nat.zero_le _, hlm⟩, ⟨c12, d89⟩, ⟨0, Nat.zero_le _, c71 4 (by omega), d0 83 (by decide)⟩, ⟨?_, ?_⟩, c13, ⟨c71 5 (by omega), c71 6 (by omega), c71 7 (by omega)⟩, d0 93 (by decide), d0 95 (by decide), d0 96 (by decide)⟩, ⟨⟨Nat.zero_le _, fun φ hφ => absurd hφ (Nat.not_lt_zero φ)⟩, ⟨Nat.zero_le _, fun i hi => absurd hi (Nat.not_lt_zero i)⟩, ⟨fun φ hφ => absurd hφ (Nat.not_lt_zero φ), fun φ hφ => absurd hφ (Nat.not_lt_zero φ)⟩, ⟨Nat.zero_le _, fun i hi => absurd hi (Nat.not_lt_zero i)⟩, Nat.zero_le _, Nat.zero_le _, fun i hi => absurd hi (Nat.not_lt_zero i)⟩, ⟨fun d hd => absurd hd (Nat.not_lt_zero d), fun d hd => absurd hd (Nat.not_lt_zero _), fun hd => absurd hd (Nat.not_lt_zero 0), fun d e hd => absurd hd (Nat.not_lt_zero d)⟩, c9 13 (by omega) (by omega)⟩
  · rw [c71 8 (by omega), d0 91 (by decide)]
  · rw [c71 9 (by omega), d0 92 (by decide)]
/-- the class lays down the arguments -/
theorem c_args {τ : jx_S} {f p : Nat} (hf : f < 40) (hp : p ≤ 8) (h43 : τ.1 43 f = nI p) : ∃ τ', p_cMac_runFunction_48 (nI f) 0 τ = ((p_cMac_enter (nI f) τ').bind fun q2 => p_cMac_runFunction_97 (nI f) 0 q2) ∧ τ'.1 = τ.1 ∧ (∀ r, r ≠ 83 → τ'.2 r = τ.2 r) ∧ ∀ j, j < p → τ'.2 83 j = cV (0, τ.1 13 j) := by
  unfold p_cMac_runFunction_48
  obtain ⟨s1, ⟨σ', rfl, h1, h2, h3⟩, e⟩ := loop_invx (f := fun s : Int32 × Int32 × jx_S => p_cMac_runFunction_48_s s.1 s.2.1 s.2.2) (fun k s => ∃ σ', s = (nI f, nI k, σ') ∧ σ'.1 = τ.1 ∧ (∀ r, r ≠ 83 → σ'.2 r = τ.2 r) ∧ ∀ j, j < k → σ'.2 83 j = cV (0, τ.1 13 j)) p (fun k s hk h => by
    obtain ⟨σ', rfl, h1, h2, h3⟩ := h
    show ∃ s1, p_cMac_runFunction_48_s (nI f) (nI k) σ' = _ ∧ _
    unfold p_cMac_runFunction_48_s
    rw [jI_at_in hf (by omega), h1, h43, if_neg (nI_ge hk (by omega)), jI_at_in (show k < 8 by omega) (by omega)]
    refine ⟨_, rfl, jL_put 8 σ' 83 (nI k) (cV (0, τ.1 13 k)), by rw [← nI_succ]; rfl, h1, fun r hr => ?_, fun i hi => ?_⟩
    · rw [s_q_ne hr]; exact h2 r hr
    · rw [s_q_eq, jL_up_in (by omega) (by omega)]
      by_cases z : i = k
      · rw [z, v_eq rfl]
      · rw [v_ne (by omega)]; exact h3 i (by omega)) (s := (nI f, (0 : Int32), τ)) ⟨τ, rfl, rfl, fun _ _ => rfl, fun i hi => by omega⟩ (X := fun s => (p_cMac_enter (nI f) s.2.2).bind fun q2 => p_cMac_runFunction_97 (nI f) 0 q2) (fun s hs => by
    obtain ⟨σ', rfl, h1, h2, h3⟩ := hs
    show p_cMac_runFunction_48_s (nI f) (nI p) σ' = _
    unfold p_cMac_runFunction_48_s
    rw [jI_at_in hf (by omega), h1, h43, if_pos (nI_le (Nat.le_refl _) (by omega))]) (n := 100000000) (by omega)
  exact ⟨σ', e, h1, h2, h3⟩
/-- the reference's end of a run -/
def r138e (f : Nat) (q3 : jx_S) : Option (Int32 × jx_S) := if ¬ (q3.1 106 87) = 0 then (p_r_run_235 q3) else (if ¬ ((q3.1 128) f) = 0 then (p_r_run_235 q3) else (p_r_run_246 (jx_i q3 106 93 ((q3.2 106 90)).toInt32)))
theorem r_args {ρ : jx_S} {f n : Nat} (hf : f < 40) (hn : n ≤ 8) (h98 : ρ.1 106 98 = nI n) : ∃ ρ', p_r_run_138 (nI f) 0 ρ = ((p_r_call (rV (4, nI f)) (nI n) (jx_i (jx_i ρ' 106 85 (nI n)) 106 98 0)).bind fun q2 => (p_r_go q2).bind fun q3 => r138e f q3) ∧ ρ'.1 = ρ.1 ∧ (∀ r, r ≠ 166 → ρ'.2 r = ρ.2 r) ∧ ∀ j, j < n → ρ'.2 166 j = rV (0, ρ.1 168 j) := by
  unfold p_r_run_138
  obtain ⟨s1, ⟨σ', rfl, h1, h2, h3⟩, e⟩ := loop_invx (f := fun s : Int32 × Int32 × jx_S => p_r_run_138_s s.1 s.2.1 s.2.2) (fun k s => ∃ σ', s = (nI f, nI k, σ') ∧ σ'.1 = ρ.1 ∧ (∀ r, r ≠ 166 → σ'.2 r = ρ.2 r) ∧ ∀ j, j < k → σ'.2 166 j = rV (0, ρ.1 168 j)) n (fun k s hk h => by
    obtain ⟨σ', rfl, h1, h2, h3⟩ := h
    show ∃ s1, p_r_run_138_s (nI f) (nI k) σ' = _ ∧ _
    unfold p_r_run_138_s
    rw [h1, h98, if_neg (nI_ge hk (by omega)), if_neg (nI_in (show k < 8 by omega) (by omega)), if_neg (nI_in (show k < 4000 by omega) (by omega)), nI_clamp (show k < 2 ^ 31 by omega)]
    refine ⟨_, rfl, jx_l σ' 166 k (rV (0, ρ.1 168 k)), by rw [← nI_succ]; rfl, h1, fun r hr => ?_, fun i hi => ?_⟩
    · rw [s_l_ne hr]; exact h2 r hr
    · rw [s_l_eq]
      by_cases z : i = k
      · rw [z, v_eq rfl]
      · rw [v_ne (by omega)]; exact h3 i (by omega)) (s := (nI f, (0 : Int32), ρ)) ⟨ρ, rfl, rfl, fun _ _ => rfl, fun i hi => by omega⟩ (X := fun s => (p_r_call (rV (4, nI f)) (nI n) (jx_i (jx_i s.2.2 106 85 (nI n)) 106 98 0)).bind fun q2 => (p_r_go q2).bind fun q3 => r138e f q3) (fun s hs => by
    obtain ⟨σ', rfl, h1, h2, h3⟩ := hs
    show p_r_run_138_s (nI f) (nI n) σ' = _
    unfold p_r_run_138_s
    rw [h1, h98, if_pos (nI_le (Nat.le_refl _) (by omega)), nI_clamp (show f < 2 ^ 31 by omega)]
    have hfi : ¬ (nI f < 0 ∨ 40 ≤ f) := fun z => by
      rcases z with z | z
      · exact nI_pos (by omega) z
      · omega
    simp only [if_neg hfi]
    rfl) (n := 100000000) (by omega)
  exact ⟨σ', e, h1, h2, h3⟩
