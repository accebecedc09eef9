/-! READER, 1: what the tokens are, once and for all; equal names. -/
abbrev jEn : Type := Nat × Nat × (Nat → Nat) × (Nat → Nat) × (Nat → Nat) × (Nat → Nat) × (Nat → Nat)
def eC (E : jEn) : Nat := E.1
def eZ (E : jEn) : Nat := E.2.1
def eT (E : jEn) : Nat → Nat := E.2.2.1
def eK (E : jEn) : Nat → Nat := E.2.2.2.1
def eP (E : jEn) : Nat → Nat := E.2.2.2.2.1
def eS (E : jEn) : Nat → Nat := E.2.2.2.2.2.1
def eN (E : jEn) : Nat → Nat := E.2.2.2.2.2.2
def EnvOK (E : jEn) : Prop := eC E ≤ 1200 ∧ eZ E ≤ 4000 ∧ (∀ j, j < eZ E → eT E j < 256) ∧ (∀ k, k < eC E → 1 ≤ eK E k ∧ eK E k ≤ 27 ∧ eP E k < eZ E) ∧ eK E (eC E) = 28 ∧ eP E (eC E) = eZ E ∧ (∀ i j, i < j → j < eC E → eP E i < eP E j) ∧
  (∀ k, k < eC E → eK E k = 1 → 1 ≤ eS E k ∧ eS E k ≤ 12 ∧ eP E k + eS E k ≤ eZ E ∧ (∀ j, j < eS E k → lc (eT E (eP E k + j)) ≠ 0) ∧ eN E k = cdf (fun j => lc (eT E (eP E k + j))) (eS E k))
def EnvC (E : jEn) (τ : jx_S) : Prop := ∀ k, k ≤ eC E → τ.1 15 k = nI (if k < eC E then eK E k else 0) ∧ τ.1 17 k = nI (eP E k) ∧ (k < eC E → eK E k = 1 → τ.2 19 k = lN (eN E k))
def EnvR (E : jEn) (ρ : jx_S) : Prop := (tx (ρ.1 107) (eT E) (eZ E) ∧ ρ.1 106 5 = -1) ∧ ∀ k, k ≤ eC E → ρ.1 108 k = nI (eK E k) ∧ ρ.1 109 k = nI (eP E k) ∧ (k < eC E → eK E k = 1 → ρ.1 110 k = nI (eS E k))
/-- the numbers of the NUMBER tokens are alike -/
def EnvV (E : jEn) (τ ρ : jx_S) : Prop := ∀ k, k < eC E → eK E k = 2 → (τ.2 19 k).toInt32 = ρ.1 111 k
theorem EnvC_keep {E : jEn} {τ τ' : jx_S} (h : EnvC E τ) (h1 : τ'.1 15 = τ.1 15) (h2 : τ'.1 17 = τ.1 17) (h3 : τ'.2 19 = τ.2 19) : EnvC E τ' := by
  unfold EnvC at *
  rw [h1, h2, h3]
  exact h
theorem EnvR_keep {E : jEn} {ρ ρ' : jx_S} (h : EnvR E ρ) (h0 : ρ'.1 107 = ρ.1 107) (h1 : ρ'.1 108 = ρ.1 108) (h2 : ρ'.1 109 = ρ.1 109) (h3 : ρ'.1 110 = ρ.1 110) (h4 : ρ'.1 106 5 = ρ.1 106 5) : EnvR E ρ' := by
  unfold EnvR at *
  rw [h0, h1, h2, h3, h4]
  exact h
/-- tokens give an environment -/
theorem env_of {T : Nat → Nat} {z c : Nat} {τ ρ : jx_S} (hz : z ≤ 4000) (hx : tx (ρ.1 107) T z) (h5 : ρ.1 106 5 = -1) (hR : TokRel T z c τ ρ) (hE : tokEnd c z τ ρ) : ∃ E, EnvOK E ∧ EnvC E τ ∧ EnvR E ρ ∧ EnvV E τ ρ ∧ eC E = c ∧ eT E = T ∧ eZ E = z := by
  obtain ⟨q1, q2, q3, q4, q5, q6⟩ := hR
  obtain ⟨r1, r2, r3, r4⟩ := hE
  have cl : ∀ x : Nat, x < 2 ^ 31 → (nI x).toNatClampNeg = x := fun x hx => nI_clamp hx
  refine ⟨(c, z, T, fun k => (ρ.1 108 k).toNatClampNeg, fun k => (ρ.1 109 k).toNatClampNeg, fun k => (ρ.1 110 k).toNatClampNeg, fun k => cdf (fun j => lc (T ((ρ.1 109 k).toNatClampNeg + j))) (ρ.1 110 k).toNatClampNeg), ?_, ?_, ?_, ?_, rfl, rfl, rfl⟩
  · refine ⟨q1, hz, fun j hj => (hx j hj).1, fun k hk => ?_, ?_, ?_, fun i j hij hj => ?_, fun k hk h1 => ?_⟩
    · obtain ⟨kd, p, n, s1, s2, s3, s4, s5, s6, s7, s8, s9, s10, s11⟩ := q5 k hk
      show 1 ≤ (ρ.1 108 k).toNatClampNeg ∧ (ρ.1 108 k).toNatClampNeg ≤ 27 ∧ (ρ.1 109 k).toNatClampNeg < z
      rw [s2, s6, cl kd (by omega), cl p (by omega)]
      omega
    · show (ρ.1 108 c).toNatClampNeg = 28
      rw [r2]; rfl
    · show (ρ.1 109 c).toNatClampNeg = z
      rw [r4, cl z (by omega)]
    · show (ρ.1 109 i).toNatClampNeg < (ρ.1 109 j).toNatClampNeg
      have hj : j < c := hj
      obtain ⟨kd, p, n, s1, s2, s3, s4, s5, s6, s7, s8, s9, s10, s11⟩ := q5 i (by omega)
      obtain ⟨kd', p', n', t1, t2, t3, t4, t5, t6, t7, t8, t9, t10, t11⟩ := q5 j hj
      have h := q6 i j hij hj
      rw [s5, t5] at h
      rw [s6, t6, cl p (by omega), cl p' (by omega)]
      exact (nI_ltI (by omega) (by omega)).mp h
    · have hk : k < c := hk
      have h1 : (ρ.1 108 k).toNatClampNeg = 1 := h1
      obtain ⟨kd, p, n, s1, s2, s3, s4, s5, s6, s7, s8, s9, s10, s11⟩ := q5 k hk
      rw [s2, cl kd (by omega)] at h1
      obtain ⟨u1, u2, u3⟩ := s10 h1
      show 1 ≤ (ρ.1 110 k).toNatClampNeg ∧ (ρ.1 110 k).toNatClampNeg ≤ 12 ∧ (ρ.1 109 k).toNatClampNeg + (ρ.1 110 k).toNatClampNeg ≤ z ∧ (∀ j, j < (ρ.1 110 k).toNatClampNeg → lc (T ((ρ.1 109 k).toNatClampNeg + j)) ≠ 0) ∧ _ = _
      rw [s6, s9, cl p (by omega), cl n (by omega)]
      exact ⟨s7, u1, s8, u2, rfl⟩
  · intro k hk
    have hk : k ≤ c := hk
    show τ.1 15 k = nI (if k < c then (ρ.1 108 k).toNatClampNeg else 0) ∧ τ.1 17 k = nI (ρ.1 109 k).toNatClampNeg ∧ (k < c → (ρ.1 108 k).toNatClampNeg = 1 → τ.2 19 k = lN (cdf (fun j => lc (T ((ρ.1 109 k).toNatClampNeg + j))) (ρ.1 110 k).toNatClampNeg))
    by_cases hkc : k < c
    · obtain ⟨kd, p, n, s1, s2, s3, s4, s5, s6, s7, s8, s9, s10, s11⟩ := q5 k hkc
      rw [if_pos hkc, s1, s2, s5, s6, s9, cl p (by omega), cl n (by omega), cl kd (by omega)]
      exact ⟨rfl, rfl, fun _ h1 => (s10 h1).2.2⟩
    · have e : k = c := by omega
      subst e
      rw [if_neg hkc, r1, r3, r4, cl z (by omega)]
      exact ⟨rfl, rfl, fun h => absurd h hkc⟩
  · refine ⟨⟨hx, h5⟩, fun k hk => ?_⟩
    have hk : k ≤ c := hk
    show ρ.1 108 k = nI (ρ.1 108 k).toNatClampNeg ∧ ρ.1 109 k = nI (ρ.1 109 k).toNatClampNeg ∧ (k < c → (ρ.1 108 k).toNatClampNeg = 1 → ρ.1 110 k = nI (ρ.1 110 k).toNatClampNeg)
    by_cases hkc : k < c
    · obtain ⟨kd, p, n, s1, s2, s3, s4, s5, s6, s7, s8, s9, s10, s11⟩ := q5 k hkc
      rw [s2, s6, s9, cl p (by omega), cl n (by omega), cl kd (by omega)]
      exact ⟨rfl, rfl, fun _ _ => rfl⟩
    · have e : k = c := by omega
      subst e
      rw [r2, r4, cl z (by omega), cl 28 (by omega)]
      exact ⟨rfl, rfl, fun h => absurd h hkc⟩
  · intro k hk h2
    have hk : k < c := hk
    obtain ⟨kd, p, n, s1, s2, s3, s4, s5, s6, s7, s8, s9, s10, s11⟩ := q5 k hk
    have h2 : (ρ.1 108 k).toNatClampNeg = 2 := h2
    rw [s2, cl kd (by omega)] at h2
    exact s11 h2
theorem isSame_loop (E : jEn) (hE : EnvOK E) (ρ : jx_S) (hR : EnvR E ρ) (i j : Nat) (hi : i < eC E) (hj : j < eC E) (ki : eK E i = 1) (kj : eK E j = 1) (hs : eS E i = eS E j) :
    ∀ m k N, k + m = eS E i → m + 1 < N → jx_loop N (fun s : Int32 × Int32 × Int32 × Int32 × jx_S => p_r_isSame_24_s s.1 s.2.1 s.2.2.1 s.2.2.2.1 (s.2.2.2.2)) (nI i, nI j, 1, nI k, ρ) = some (if ∀ q, q < eS E i → k ≤ q → eT E (eP E i + q) = eT E (eP E j + q) then 1 else 0, ρ) := by
  obtain ⟨e1, e2, e3, e4, e5, e6, e7, e8⟩ := hE
  obtain ⟨i1, i2, i3, i4, i5⟩ := e8 i hi ki
  obtain ⟨j1, j2, j3, j4, j5⟩ := e8 j hj kj
  obtain ⟨⟨hx, _⟩, hR⟩ := hR
  obtain ⟨a1, a2, a3⟩ := hR i (by omega)
  obtain ⟨b1, b2, b3⟩ := hR j (by omega)
  have a3 := a3 hi ki
  have b3 := b3 hj kj
  intro m
  induction m with
  | zero =>
    intro k N h1 h2
    obtain ⟨N, rfl⟩ : ∃ M, N = M + 1 := ⟨N - 1, by omega⟩
    refine jx_loop_out ?_ N
    show p_r_isSame_24_s (nI i) (nI j) 1 (nI k) ρ = _
    unfold p_r_isSame_24_s
    rw [if_pos (show ∀ q, q < eS E i → k ≤ q → eT E (eP E i + q) = eT E (eP E j + q) from fun q h3 h4 => by omega)]
    simp (disch := first | assumption | decide | omega) only [a3, nI_lit, cT_lt, cF_lt, cT_le, cF_le, cT_eq, cF_eq, nF_le, mF_eq, mG_eq, mT_lt, eq_self, nI_clamp, nI_add, Nat.add_zero, nI_sub, s_i_ne, s_i_eq, s_i_2, s_l_1, s_l_ne, s_l_eq, s_p_ne, s_p_eq, s_p_2, s_q_1, s_q_ne, s_q_eq, u_ne, u_eq, v_ne, v_eq, w_ne, w_eq, jI_at_in, jL_at_in, false_or, or_false, true_or, or_true, true_and, and_true, false_and, and_false, not_true_eq_false, not_false_eq_true, ↓reduceIte, Option.bind_some, Option.map_some]
  | succ m ih =>
    intro k N h1 h2
    obtain ⟨N, rfl⟩ : ∃ M, N = M + 1 := ⟨N - 1, by omega⟩
    have t1 := (hx (eP E i + k) (by omega))
    have t2 := (hx (eP E j + k) (by omega))
    by_cases hc : eT E (eP E i + k) = eT E (eP E j + k)
    · rw [jx_loop_inl (s1 := (nI i, nI j, 1, nI (k + 1), ρ)) (by
        show p_r_isSame_24_s (nI i) (nI j) 1 (nI k) ρ = _
        unfold p_r_isSame_24_s p_r_isSame_75
        simp (disch := first | assumption | decide | omega) only [a3, a2, b2, t1.2, t2.2, hc, nI_lit, cT_lt, cF_lt, cT_le, cF_le, cT_eq, cF_eq, nF_le, mF_eq, mG_eq, mT_lt, eq_self, nI_clamp, nI_add, Nat.add_zero, nI_sub, s_i_ne, s_i_eq, s_i_2, s_l_1, s_l_ne, s_l_eq, s_p_ne, s_p_eq, s_p_2, s_q_1, s_q_ne, s_q_eq, u_ne, u_eq, v_ne, v_eq, w_ne, w_eq, jI_at_in, jL_at_in, false_or, or_false, true_or, or_true, true_and, and_true, false_and, and_false, not_true_eq_false, not_false_eq_true, ↓reduceIte, Option.bind_some, Option.map_some])]
      rw [ih (k + 1) N (by omega) (by omega)]
      congr 2
      apply ifc
      refine ⟨fun h q h6 h7 => ?_, fun h q h6 h7 => h q h6 (by omega)⟩
      by_cases hq : q = k
      · rw [hq]; exact hc
      · exact h q h6 (by omega)
    · rw [jx_loop_inl (s1 := (nI i, nI j, 0, nI (k + 1), ρ)) (by
        show p_r_isSame_24_s (nI i) (nI j) 1 (nI k) ρ = _
        unfold p_r_isSame_24_s p_r_isSame_75
        simp (disch := first | assumption | decide | omega) only [a3, a2, b2, t1.2, t2.2, nI_lit, cT_lt, cF_lt, cT_le, cF_le, cT_eq, cF_eq, nF_le, mF_eq, mG_eq, mT_lt, eq_self, nI_clamp, nI_add, Nat.add_zero, nI_sub, s_i_ne, s_i_eq, s_i_2, s_l_1, s_l_ne, s_l_eq, s_p_ne, s_p_eq, s_p_2, s_q_1, s_q_ne, s_q_eq, u_ne, u_eq, v_ne, v_eq, w_ne, w_eq, jI_at_in, jL_at_in, false_or, or_false, true_or, or_true, true_and, and_true, false_and, and_false, not_true_eq_false, not_false_eq_true, ↓reduceIte, Option.bind_some, Option.map_some])]
      obtain ⟨N, rfl⟩ : ∃ M, N = M + 1 := ⟨N - 1, by omega⟩
      refine (jx_loop_out (X := some (0, ρ)) ?_ N).trans ?_
      · show p_r_isSame_24_s (nI i) (nI j) 0 (nI (k + 1)) ρ = _
        unfold p_r_isSame_24_s
        by_cases hk : k + 1 < eS E i
        · simp (disch := first | assumption | decide | omega) only [a3, nI_lit, cT_lt, cF_lt, cT_le, cF_le, cT_eq, cF_eq, nF_le, mF_eq, mG_eq, mT_lt, eq_self, nI_clamp, nI_add, Nat.add_zero, nI_sub, s_i_ne, s_i_eq, s_i_2, s_l_1, s_l_ne, s_l_eq, s_p_ne, s_p_eq, s_p_2, s_q_1, s_q_ne, s_q_eq, u_ne, u_eq, v_ne, v_eq, w_ne, w_eq, jI_at_in, jL_at_in, false_or, or_false, true_or, or_true, true_and, and_true, false_and, and_false, not_true_eq_false, not_false_eq_true, ↓reduceIte, Option.bind_some, Option.map_some]
        · simp (disch := first | assumption | decide | omega) only [a3, nI_lit, cT_lt, cF_lt, cT_le, cF_le, cT_eq, cF_eq, nF_le, mF_eq, mG_eq, mT_lt, eq_self, nI_clamp, nI_add, Nat.add_zero, nI_sub, s_i_ne, s_i_eq, s_i_2, s_l_1, s_l_ne, s_l_eq, s_p_ne, s_p_eq, s_p_2, s_q_1, s_q_ne, s_q_eq, u_ne, u_eq, v_ne, v_eq, w_ne, w_eq, jI_at_in, jL_at_in, false_or, or_false, true_or, or_true, true_and, and_true, false_and, and_false, not_true_eq_false, not_false_eq_true, ↓reduceIte, Option.bind_some, Option.map_some]
      · rw [if_neg (fun h => hc (h k (by omega) (by omega)))]
theorem q_r_isSame (E : jEn) (hE : EnvOK E) (ρ : jx_S) (hR : EnvR E ρ) (i j : Nat) (hi : i < eC E) (hj : j < eC E) (ki : eK E i = 1) (kj : eK E j = 1) : p_r_isSame (nI i) (nI j) ρ = some (if eN E i = eN E j then 1 else 0, ρ) := by
  have hE0 := hE
  have hR0 := hR
  obtain ⟨e1, e2, e3, e4, e5, e6, e7, e8⟩ := hE
  obtain ⟨i1, i2, i3, i4, i5⟩ := e8 i hi ki
  obtain ⟨j1, j2, j3, j4, j5⟩ := e8 j hj kj
  obtain ⟨⟨hx, _⟩, hR⟩ := hR
  have a3 := (hR i (by omega)).2.2 hi ki
  have b3 := (hR j (by omega)).2.2 hj kj
  have inj : eN E i = eN E j ↔ eS E i = eS E j ∧ ∀ q, q < eS E i → eT E (eP E i + q) = eT E (eP E j + q) := by
    rw [i5, j5]
    constructor
    · intro h
      obtain ⟨u, w⟩ := cdf_inj _ _ _ _ (fun q hq => ⟨i4 q hq, lc_le _⟩) (fun q hq => ⟨j4 q hq, lc_le _⟩) h
      exact ⟨u, fun q hq => lc_inj (i4 q hq) (w q hq)⟩
    · rintro ⟨u, w⟩
      rw [← u]
      exact cdf_congr _ (fun q hq => by show lc _ = lc _; rw [w q hq])
  unfold p_r_isSame p_r_isSame_20 p_r_isSame_24
  by_cases hs : eS E i = eS E j
  · have key := isSame_loop E hE0 ρ hR0 i j hi hj ki kj hs (eS E i) 0 100000000 (by omega) (by omega)
    simp (disch := first | assumption | decide | omega) only [a3, b3, nI_lit, cT_lt, cF_lt, cT_le, cF_le, cT_eq, cF_eq, nF_le, mF_eq, mG_eq, mT_lt, eq_self, nI_clamp, nI_add, Nat.add_zero, nI_sub, s_i_ne, s_i_eq, s_i_2, s_l_1, s_l_ne, s_l_eq, s_p_ne, s_p_eq, s_p_2, s_q_1, s_q_ne, s_q_eq, u_ne, u_eq, v_ne, v_eq, w_ne, w_eq, jI_at_in, jL_at_in, false_or, or_false, true_or, or_true, true_and, and_true, false_and, and_false, not_true_eq_false, not_false_eq_true, ↓reduceIte, Option.bind_some, Option.map_some]
    rw [show ((nI i, nI j, nI 1, nI 0, ρ) : Int32 × Int32 × Int32 × Int32 × jx_S) = (nI i, nI j, 1, nI 0, ρ) from rfl, key]
    congr 2
    exact ifc ⟨fun h => inj.mpr ⟨hs, fun q hq => h q hq (by omega)⟩, fun h q hq _ => (inj.mp h).2 q hq⟩
  · rw [if_neg (show ¬ eN E i = eN E j from fun q => hs (inj.mp q).1)]
    simp (disch := first | assumption | decide | omega) only [a3, b3, nI_lit, cT_lt, cF_lt, cT_le, cF_le, cT_eq, cF_eq, nF_le, mF_eq, mG_eq, mT_lt, eq_self, nI_clamp, nI_add, Nat.add_zero, nI_sub, s_i_ne, s_i_eq, s_i_2, s_l_1, s_l_ne, s_l_eq, s_p_ne, s_p_eq, s_p_2, s_q_1, s_q_ne, s_q_eq, u_ne, u_eq, v_ne, v_eq, w_ne, w_eq, jI_at_in, jL_at_in, false_or, or_false, true_or, or_true, true_and, and_true, false_and, and_false, not_true_eq_false, not_false_eq_true, ↓reduceIte, Option.bind_some, Option.map_some]
    refine jx_loop_out (X := some (0, ρ)) ?_ 99999999
    show p_r_isSame_24_s (nI i) (nI j) 0 0 ρ = _
    unfold p_r_isSame_24_s
    simp (disch := first | assumption | decide | omega) only [a3, nI_lit, cT_lt, cF_lt, cT_le, cF_le, cT_eq, cF_eq, nF_le, mF_eq, mG_eq, mT_lt, eq_self, nI_clamp, nI_add, Nat.add_zero, nI_sub, s_i_ne, s_i_eq, s_i_2, s_l_1, s_l_ne, s_l_eq, s_p_ne, s_p_eq, s_p_2, s_q_1, s_q_ne, s_q_eq, u_ne, u_eq, v_ne, v_eq, w_ne, w_eq, jI_at_in, jL_at_in, false_or, or_false, true_or, or_true, true_and, and_true, false_and, and_false, not_true_eq_false, not_false_eq_true, ↓reduceIte, Option.bind_some, Option.map_some]
/-- the kind that the class sees -/
def eKc (E : jEn) (a : Nat) : Nat := if a < eC E then eK E a else 0
theorem eKc_or {E : jEn} (hE : EnvOK E) {a : Nat} (ha : a ≤ eC E) : (eKc E a = eK E a ∧ a < eC E ∧ 1 ≤ eK E a ∧ eK E a ≤ 27) ∨ (eKc E a = 0 ∧ eK E a = 28 ∧ a = eC E) := by
  unfold eKc
  by_cases h : a < eC E
  · left; rw [if_pos h]; have := hE.2.2.2.1 a h; exact ⟨rfl, h, this.1, this.2.1⟩
  · right; have e : a = eC E := by omega
    rw [if_neg h]; exact ⟨rfl, by rw [e]; exact hE.2.2.2.2.1, e⟩
theorem q_kind {E : jEn} (hE : EnvOK E) {τ : jx_S} (hC : EnvC E τ) (h0 : τ.1 1 0 = 0) {a : Nat} (h6 : τ.1 5 6 = nI a) (ha : a ≤ eC E) : v_cRea_kind τ = nI (eKc E a) := by
  have := hE.1
  unfold v_cRea_kind v_cFau_isTold
  rw [if_pos h0, if_pos rfl, h6, jI_at_in (by omega) (by omega), (hC a ha).1]
  rfl
