/-! CALLS, 4: place, functions, rounds, told, element. -/
/-- compiled with a fault, or to be used -/
theorem iCD_or {T : Nat → Nat} {z : Nat} {τ ρ : jx_S} (h : iCD T z τ ρ) : (τ.1 1 0 ≠ 0 ∧ ρ.1 106 5 = τ.1 1 1 ∧ ρ.1 106 3 = 0 ∧ ρ.1 106 38 = 0 ∧ ρ.1 106 39 = 0) ∨ (τ.1 1 0 = 0 ∧ ρ.1 106 5 = -1 ∧ ρ.1 106 3 = 1 ∧ ∃ τ1 ρ1 E G F nS tS R pN bN lN' ty V, US E G F nS tS R pN bN lN' ty V τ1 ρ1 ∧ sC τ1 τ ∧ sR ρ1 ρ) := by
  obtain ⟨a, τ0, τ1, ρ1, v, b1, b2, b3, b4, b5⟩ := h
  have e10 : τ.1 1 0 = τ1.1 1 0 := (b3 1 0 (by decide) (by decide) (by decide)).1
  have e11 : τ.1 1 1 = τ1.1 1 1 := (b3 1 1 (by decide) (by decide) (by decide)).1
  have e5 : ρ.1 106 5 = ρ1.1 106 5 := (b4 106 5 (by decide) (by decide) (by decide) (by decide)).1
  have e3 : ρ.1 106 3 = ρ1.1 106 3 := (b4 106 3 (by decide) (by decide) (by decide) (by decide)).1
  have e38 : ρ.1 106 38 = ρ1.1 106 38 := (b4 106 38 (by decide) (by decide) (by decide) (by decide)).1
  have e39 : ρ.1 106 39 = ρ1.1 106 39 := (b4 106 39 (by decide) (by decide) (by decide) (by decide)).1
  rw [e10, e11, e5, e3, e38, e39]
  rcases b5 with ⟨q1, q2, q3, q4, q5, q6, _⟩ | ⟨E, G, F, nS, tS, R, pN, bN, lN', ty, V, q, _⟩
  · exact Or.inl ⟨q1, q3, q4, q5, q6⟩
  · obtain ⟨hE, hEC, hER, hEV, hAP, hAN, hn, hUF, u1, u2, u3, u4, u5⟩ := id q
    exact Or.inr ⟨u2, hER.1.2, u4, τ1, ρ1, E, G, F, nS, tS, R, pN, bN, lN', ty, V, q, b3, b4⟩
theorem c_use {τ : jx_S} (h12 : τ.1 0 12 = 1) (h10 : τ.1 1 0 = 0) : v_cl_isUsable τ = 1 := by
  unfold v_cl_isUsable v_cFau_isTold
  rw [h12, if_neg (by decide), h10, if_pos rfl, if_neg (fun q => q rfl)]
theorem c_nouse {τ : jx_S} (h : τ.1 0 12 = 0 ∨ τ.1 1 0 ≠ 0) : v_cl_isUsable τ = 0 := by
  unfold v_cl_isUsable v_cFau_isTold
  by_cases z : τ.1 0 12 = 0
  · rw [if_pos z]
  · have h1 : τ.1 1 0 ≠ 0 := by
      rcases h with h | h
      · exact absurd h z
      · exact h
    rw [if_neg z, if_neg h1, if_pos (by decide)]
theorem call_place {τ ρ : jx_S} (h : IV2 τ ρ) : p_r_place ρ = some (v_cl_place τ, jx_i ρ 106 2 0) ∧ IV2 τ (jx_i ρ 106 2 0) := by
  refine ⟨?_, IV2_2 h⟩
  obtain ⟨T, z, g, h1, h2, h3, h4⟩ := h
  unfold p_r_place v_cl_place v_cFau_isTold
  rcases h4 with h4 | h4
  · rw [h4.2.2.1, h4.1, if_pos rfl]
  · rcases iCD_or h4 with ⟨q1, q2, _⟩ | ⟨q1, q2, _⟩
    · rw [h4.1, if_neg (by decide), if_neg q1, if_neg (by decide), q2]
    · rw [h4.1, if_neg (by decide), q1, if_pos rfl, if_pos rfl, q2]
theorem call_functions {τ ρ : jx_S} (h : IV2 τ ρ) : p_r_functions ρ = some (v_cl_functions τ, jx_i ρ 106 2 0) ∧ IV2 τ (jx_i ρ 106 2 0) := by
  refine ⟨?_, IV2_2 h⟩
  obtain ⟨T, z, g, h1, h2, h3, h4⟩ := h
  unfold p_r_functions v_cl_functions
  rcases h4 with h4 | h4
  · rw [h4.2.2.2.1, c_nouse (Or.inl h4.1), if_pos rfl]
  · rcases iCD_or h4 with ⟨q1, q2, q3, q4, q5⟩ | ⟨q1, q2, q3, τ1, ρ1, E, G, F, nS, tS, R, pN, bN, lN', ty, V, q, b3, b4⟩
    · rw [q4, c_nouse (Or.inr q1), if_pos rfl]
    · obtain ⟨hE, hEC, hER, hEV, hAP, hAN, hn, hUF, u⟩ := q
      rw [c_use h4.1 q1, if_neg (by decide), (b3 4 10 (by decide) (by decide) (by decide)).1, (b4 106 38 (by decide) (by decide) (by decide) (by decide)).1, hAP.2.1, hAP.2.2.1]
theorem call_rounds {τ ρ : jx_S} (h : IV2 τ ρ) : p_r_rounds ρ = some (v_cl_rounds τ, jx_i ρ 106 2 0) ∧ IV2 τ (jx_i ρ 106 2 0) := by
  refine ⟨?_, IV2_2 h⟩
  obtain ⟨T, z, g, h1, h2, h3, h4⟩ := h
  unfold p_r_rounds v_cl_rounds
  rcases h4 with h4 | h4
  · rw [h4.2.2.2.2, c_nouse (Or.inl h4.1), if_pos rfl]
  · rcases iCD_or h4 with ⟨q1, q2, q3, q4, q5⟩ | ⟨q1, q2, q3, τ1, ρ1, E, G, F, nS, tS, R, pN, bN, lN', ty, V, q, b3, b4⟩
    · rw [q5, c_nouse (Or.inr q1), if_pos rfl]
    · obtain ⟨hE, hEC, hER, hEV, hAP, hAN, hn, hUF, u⟩ := q
      obtain ⟨n, n1, n2, n3⟩ := hAN.1
      rw [c_use h4.1 q1, if_neg (by decide), (b3 7 6 (by decide) (by decide) (by decide)).1, (b4 106 39 (by decide) (by decide) (by decide) (by decide)).1, n2, n3]
/-- the reference tells -/
theorem q_r_told {ρ : jx_S} {i n : Nat} (hi : i < 10) (h67 : ρ.1 106 67 = nI n) (hn : n ≤ 3000) (h96 : ρ.1 106 96 = 0 ∨ ρ.1 106 96 = 1) : p_r_told (nI i) ρ = some (if i = 0 then ρ.1 106 88 else if i = 1 then nI n else if i = 2 then nI (und ρ n) else if i = 3 then ρ.1 106 70 else if i = 4 then ρ.1 106 83 else if i = 5 then ρ.1 106 93 else if i = 6 then ρ.1 106 95 else if i = 7 then ρ.1 106 96 else if i = 8 then ρ.1 106 91 else ρ.1 106 92, jx_i ρ 106 2 0) := by
  unfold p_r_told p_r_told_16
  rw [if_neg (nI_pos (by omega)), if_pos (show nI i ≤ (9 : Int32) from (nI_le (by omega) (by omega) : nI i ≤ nI 9)), if_pos (by decide)]
  unfold p_r_told_32
  have e : ∀ j, j ≠ 2 → (jx_i ρ 106 2 0).1 106 j = ρ.1 106 j := fun j hj => by rw [s_i_eq, u_ne hj]
  obtain ⟨s1, rfl, e2⟩ := loop_invx (f := fun s : Int32 × Int32 × Int32 × jx_S => p_r_told_32_s s.1 s.2.1 s.2.2.1 s.2.2.2) (fun k s => s = (nI i, nI (und ρ k), nI k, jx_i ρ 106 2 0)) n (fun k s hk h => by
    subst h
    show ∃ s1, p_r_told_32_s (nI i) (nI (und ρ k)) (nI k) (jx_i ρ 106 2 0) = _ ∧ _
    unfold p_r_told_32_s p_r_told_56
    rw [e 67 (by decide), h67, if_neg (nI_ge hk (by omega)), if_neg (nI_in (show k < 3000 by omega) (by omega)), nI_clamp (show k < 2 ^ 31 by omega), s_i_ne (by decide)]
    have eu : und ρ (k + 1) = und ρ k + (if ρ.1 153 k = 2 then 0 else 1) := rfl
    by_cases z : ρ.1 153 k = 2
    · rw [if_neg (fun q => q z)]
      refine ⟨_, rfl, ?_⟩
      rw [eu, if_pos z, Nat.add_zero, ← nI_succ, Int32.add_zero]
    · rw [if_pos z]
      refine ⟨_, rfl, ?_⟩
      rw [eu, if_neg z, ← nI_succ, ← nI_succ]) (s := (nI i, (0 : Int32), (0 : Int32), jx_i ρ 106 2 0)) rfl (X := fun s => some (if i = 0 then ρ.1 106 88 else if i = 1 then nI n else if i = 2 then nI (und ρ n) else if i = 3 then ρ.1 106 70 else if i = 4 then ρ.1 106 83 else if i = 5 then ρ.1 106 93 else if i = 6 then ρ.1 106 95 else if i = 7 then ρ.1 106 96 else if i = 8 then ρ.1 106 91 else ρ.1 106 92, jx_i ρ 106 2 0)) (fun s hs => by
    subst hs
    show p_r_told_32_s (nI i) (nI (und ρ n)) (nI n) (jx_i ρ 106 2 0) = _
    unfold p_r_told_32_s
    rw [e 67 (by decide), h67, if_pos (nI_le (Nat.le_refl _) (by omega)), e 88 (by decide), e 70 (by decide), e 83 (by decide), e 93 (by decide), e 95 (by decide), e 96 (by decide), e 91 (by decide), e 92 (by decide)]
    rcases (show i = 0 ∨ i = 1 ∨ i = 2 ∨ i = 3 ∨ i = 4 ∨ i = 5 ∨ i = 6 ∨ i = 7 ∨ i = 8 ∨ i = 9 by omega) with rfl | rfl | rfl | rfl | rfl | rfl | rfl | rfl | rfl | rfl
    · rfl
    · rfl
    · rfl
    · rfl
    · rfl
    · rfl
    · rfl
    · rcases h96 with q | q
      · rw [q]; rfl
      · rw [q]; rfl
    · rfl
    · rfl) (n := 100000000) (by omega)
  exact e2
theorem call_told {τ ρ : jx_S} (h : IV2 τ ρ) (x1 : Int32) : (∃ r ρ', p_cl_told x1 τ = some (r, τ) ∧ p_r_told x1 ρ = some (r, ρ') ∧ ρ'.1 106 2 = 0 ∧ IV2 τ ρ') ∨ ((x1 < 0 ∨ ¬ x1 < 10) ∧ ∃ ρ', p_r_told x1 ρ = some (0, ρ') ∧ ρ'.1 106 2 = 1 ∧ IV2 τ ρ') := by
  by_cases hx : x1 < 0 ∨ ¬ x1 < 10
  · right
    refine ⟨hx, jx_i ρ 106 2 1, q_r_told_no ρ x1 ?_, by rw [s_i_eq, u_eq rfl], IV2_2 h⟩
    rcases hx with q | q
    · exact Or.inl q
    · by_cases y : x1 < 0
      · exact Or.inl y
      · obtain ⟨n, n1, rfl⟩ := nI_ofP y
        right
        have hn : ¬ n < 10 := fun z => q (nI_lt (b := 10) z (by omega))
        exact (nI_ge (show 9 < n by omega) n1 : ¬ nI n ≤ nI 9)
  · left
    have h0 : ¬ x1 < 0 := fun q => hx (Or.inl q)
    have h10 : x1 < 10 := Classical.byContradiction (fun q => hx (Or.inr q))
    obtain ⟨i, n1, rfl⟩ := nI_ofP h0
    have hi : i < 10 := Classical.byContradiction (fun q => (nI_nlt (a := i) (b := 10) (by omega) n1) h10)
    obtain ⟨T, z, g, h1, h2, ⟨n, go, ⟨a1, a2, a3, a4⟩, ⟨b1, b2, b3, b4, b5, b6⟩, ⟨c1, c2, c3, c4⟩, d1, d2⟩, h4⟩ := id h
    refine ⟨τ.1 71 i, jx_i ρ 106 2 0, q_cl_told τ i hi, ?_, by rw [s_i_eq, u_eq rfl], IV2_2 h⟩
    rw [q_r_told hi a2 a1 d2]
    rcases (show i = 0 ∨ i = 1 ∨ i = 2 ∨ i = 3 ∨ i = 4 ∨ i = 5 ∨ i = 6 ∨ i = 7 ∨ i = 8 ∨ i = 9 by omega) with rfl | rfl | rfl | rfl | rfl | rfl | rfl | rfl | rfl | rfl
    · rw [b1]; rfl
    · rw [a3]; rfl
    · rw [a4]; rfl
    · rw [b2]; rfl
    · rw [b3]; rfl
    · rw [b4]; rfl
    · rw [c2, ← c3]; rfl
    · rw [d1]; rfl
    · rw [b5]; rfl
    · rw [b6]; rfl
theorem call_element {τ ρ : jx_S} (h : IV2 τ ρ) (x1 : Int32) : (∃ r ρ', p_cl_element x1 τ = some (r, τ) ∧ p_r_element x1 ρ = some (r, ρ') ∧ ρ'.1 106 2 = 0 ∧ IV2 τ ρ') ∨ ((x1 < 0 ∨ ¬ x1 < jI_at 10 (τ.1 71) (6 : Int32)) ∧ ∃ ρ', p_r_element x1 ρ = some (0, ρ') ∧ ρ'.1 106 2 = 1 ∧ IV2 τ ρ') := by
  obtain ⟨T, z, g, h1, h2, ⟨n, go, _, _, ⟨c1, c2, c3, c4⟩, _⟩, h4⟩ := id h
  have e6 : jI_at 10 (τ.1 71) (6 : Int32) = nI go := (jI_at_in (j := 6) (by omega) (by omega)).trans c2
  rw [e6]
  by_cases hx : x1 < 0 ∨ ¬ x1 < nI go
  · right
    exact ⟨hx, jx_i ρ 106 2 1, q_r_element_no ρ x1 (by rw [c3]; exact hx), by rw [s_i_eq, u_eq rfl], IV2_2 h⟩
  · left
    have h0 : ¬ x1 < 0 := fun q => hx (Or.inl q)
    have h10 : x1 < nI go := Classical.byContradiction (fun q => hx (Or.inr q))
    obtain ⟨i, n1, rfl⟩ := nI_ofP h0
    have hi : i < go := Classical.byContradiction (fun q => (nI_nlt (a := i) (b := go) (by omega) n1) h10)
    exact ⟨τ.1 73 i, jx_i ρ 106 2 0, q_cl_element τ i go c2 hi c1, by rw [q_r_element ρ i go c3 hi c1, c4 i hi], by rw [s_i_eq, u_eq rfl], IV2_2 h⟩
