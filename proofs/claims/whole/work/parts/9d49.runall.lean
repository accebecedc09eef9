/-! RUNS, 49: a whole run, in both: the loops of ticks; what is told. -/
def c97 : Int32 × Int32 × jx_S → Option ((Int32 × Int32 × jx_S) ⊕ (Int32 × jx_S)) := fun s => p_cMac_runFunction_97_s s.1 s.2.1 s.2.2
theorem c97_tks {f : Nat} : ∀ j x5 (τ τ' : jx_S), tks j τ τ' → x5 + j ≤ 1000000 → ∀ N, jx_loop (N + j) c97 (nI f, nI x5, τ) = jx_loop N c97 (nI f, nI (x5 + j), τ') := by
  intro j
  induction j with
  | zero =>
    intro x5 τ τ' h _ N
    have : τ' = τ := h
    subst this
    rfl
  | succ j ih =>
    intro x5 τ τ' h hx N
    obtain ⟨τ1, h1, h2, h3, h4⟩ := h
    rw [show N + (j + 1) = (N + j) + 1 by omega, jx_loop_inl (s1 := (nI f, nI (x5 + 1), τ1))]
    · rw [ih (x5 + 1) τ1 τ' h4 (by omega) N, show x5 + 1 + j = x5 + (j + 1) by omega]
    · show p_cMac_runFunction_97_s (nI f) (nI x5) τ = _
      have h3' : p_cMac_workOn (jI_at 250 (τ.1 75) (τ.1 8 11 - 1)) (jI_at 250 (τ.1 79) (τ.1 8 11 - 1)) τ = some τ1 := h3
      unfold p_cMac_runFunction_97_s
      rw [if_neg (show ¬ (1000000 : Int32) ≤ nI x5 from (nI_ge (by omega) (by omega) : ¬ nI 1000000 ≤ nI x5)), h1, if_neg (fun q => q rfl), if_neg h2, h3', Option.bind_some]
      unfold p_cMac_runFunction_192
      rw [← nI_succ]
theorem c97_gks {f : Nat} (hf : f < 40) : ∀ j x5 (τ τ' : jx_S), gks j τ τ' → τ.1 45 f = nI 1 → x5 + j ≤ 1000000 → ∀ N, jx_loop (N + j) c97 (nI f, nI x5, τ) = jx_loop N c97 (nI f, nI (x5 + j), τ') := by
  intro j
  induction j with
  | zero =>
    intro x5 τ τ' h _ _ N
    have : τ' = τ := h
    subst this
    rfl
  | succ j ih =>
    intro x5 τ τ' h h45 hx N
    obtain ⟨τ1, h1, h2, h4⟩ := h
    have h45' : τ1.1 45 f = nI 1 := by
      rcases h2 with ⟨_, h2⟩ | ⟨_, h2⟩
      · rw [(f_cMac_goAlong τ τ jFr.rfl τ1 h2 45 f (by decide) (by simp [fs_cMac_goAlong])).1]; exact h45
      · rw [(f_cMac_workOn τ _ _ τ jFr.rfl τ1 h2 45 f (by decide) (by simp [fs_cMac_workOn])).1]; exact h45
    rw [show N + (j + 1) = (N + j) + 1 by omega, jx_loop_inl (s1 := (nI f, nI (x5 + 1), τ1))]
    · rw [ih (x5 + 1) τ1 τ' h4 h45' (by omega) N, show x5 + 1 + j = x5 + (j + 1) by omega]
    · show p_cMac_runFunction_97_s (nI f) (nI x5) τ = _
      unfold p_cMac_runFunction_97_s p_cMac_runFunction_192
      rw [if_neg (show ¬ (1000000 : Int32) ≤ nI x5 from (nI_ge (by omega) (by omega) : ¬ nI 1000000 ≤ nI x5)), h1, if_neg (fun q => q rfl)]
      rcases h2 with ⟨h2, h3⟩ | ⟨h2, h3⟩
      · rw [if_pos h2, jI_at_in hf (by omega), h45, if_pos (show ¬ nI 1 = 0 by decide), h3, Option.bind_some, ← nI_succ]
      · have h3' : p_cMac_workOn (jI_at 250 (τ.1 75) (τ.1 8 11 - 1)) (jI_at 250 (τ.1 79) (τ.1 8 11 - 1)) τ = some τ1 := h3
        rw [if_neg h2, h3', Option.bind_some, ← nI_succ]
def cEnd (τ : jx_S) : jx_S := jI_put 10 (jI_put 10 (jI_put 10 τ 71 (1 : Int32) (τ.1 9 12)) 71 (2 : Int32) ((τ.1 9 12) - (τ.1 9 13))) 71 (3 : Int32) (τ.1 9 11)
theorem c97_end {f x5 : Nat} {τ : jx_S} (h : τ.1 8 14 ≠ 0) (N : Nat) : jx_loop (N + 1) c97 (nI f, nI x5, τ) = some (τ.1 8 14, cEnd τ) := by
  refine jx_loop_inr ?_
  show p_cMac_runFunction_97_s (nI f) (nI x5) τ = _
  unfold p_cMac_runFunction_97_s p_cMac_runFunction_198
  by_cases z : (1000000 : Int32) ≤ nI x5
  · rw [if_pos z]; rfl
  · rw [if_neg z, if_pos h]; rfl
/-- what is told -/
def und (ρ : jx_S) (n : Nat) : Nat := sumN (fun k => if ρ.1 153 k = 2 then 0 else 1) n
def TD (τ ρ : jx_S) : Prop := ∃ n go, (n ≤ 3000 ∧ ρ.1 106 67 = nI n ∧ τ.1 71 1 = nI n ∧ τ.1 71 2 = nI (und ρ n)) ∧ (τ.1 71 0 = ρ.1 106 88 ∧ τ.1 71 3 = ρ.1 106 70 ∧ τ.1 71 4 = ρ.1 106 83 ∧ τ.1 71 5 = ρ.1 106 93 ∧ τ.1 71 8 = ρ.1 106 91 ∧ τ.1 71 9 = ρ.1 106 92) ∧ (go ≤ 50 ∧ τ.1 71 6 = nI go ∧ ρ.1 106 95 = nI go ∧ ∀ i, i < go → τ.1 73 i = ρ.1 167 i) ∧ τ.1 71 7 = ρ.1 106 96 ∧ (ρ.1 106 96 = 0 ∨ ρ.1 106 96 = 1)
theorem sumN_split {g h : Nat → Nat} : ∀ n, (∀ i, i < n → g i + h i = 1) → sumN g n + sumN h n = n := by
  intro n
  induction n with
  | zero => intro _; rfl
  | succ n ih =>
    intro hh
    have e1 : sumN g (n + 1) = sumN g n + g n := rfl
    have e2 : sumN h (n + 1) = sumN h n + h n := rfl
    have := ih (fun i hi => hh i (by omega))
    have := hh n (by omega)
    omega
theorem TD_FIN {H : jHp} {go : Nat} {τ ρ ρ' : jx_S} (h : FIN H go τ ρ) (d1 : ∀ j, j ≠ 87 → ρ'.1 106 j = ρ.1 106 j) (d2 : ρ'.1 153 = ρ.1 153) (d3 : ρ'.1 167 = ρ.1 167) : TD (cEnd τ) ρ' := by
  obtain ⟨_, ⟨a1, a2, a3, a4⟩, b, ⟨c1, c2, c3, c4, c5⟩, ⟨e1, e2, e3, e4, e5, e6⟩, hel⟩ := h
  have e71 : (cEnd τ).1 71 = upd (upd (upd (τ.1 71) 1 (τ.1 9 12)) 2 (τ.1 9 12 - τ.1 9 13)) 3 (τ.1 9 11) := by
    unfold cEnd
    rw [s_p_eq, show (3 : Int32) = nI 3 from rfl, jI_up_in (by omega) (by omega), s_p_eq, show (2 : Int32) = nI 2 from rfl, jI_up_in (by omega) (by omega), s_p_eq, show (1 : Int32) = nI 1 from rfl, jI_up_in (by omega) (by omega)]
  have e73 : (cEnd τ).1 73 = τ.1 73 := by
    unfold cEnd
    rw [s_p_ne (by decide), s_p_ne (by decide), s_p_ne (by decide)]
  have hund : und ρ' (jPn H) + dnN H = jPn H := by
    unfold und dnN
    refine sumN_split _ (fun i hi => ?_)
    show (if ρ'.1 153 i = 2 then 0 else 1) + (if jPs H i = 2 then 1 else 0) = 1
    have := (c5 i hi).2
    rw [d2, (c5 i hi).1]
    by_cases z : jPs H i = 2
    · rw [if_pos (by rw [z]; rfl), if_pos z]
    · rw [if_neg (show ¬ nI (jPs H i) = (2 : Int32) from fun q => z ((nI_eq (b := 2) (by omega) (by omega)).1 q)), if_neg z]
  refine ⟨jPn H, go, ⟨c1, ?_, ?_, ?_⟩, ⟨?_, ?_, ?_, ?_, ?_, ?_⟩, ⟨e4, ?_, ?_, fun i hi => ?_⟩, ?_, ?_⟩
  · rw [d1 67 (by decide)]; exact c3
  · rw [e71, u_ne (by decide), u_ne (by decide), u_eq rfl]; exact c2
  · rw [e71, u_ne (by decide), u_eq rfl, c2, c4, nI_sub (by omega), show jPn H - dnN H = und ρ' (jPn H) by omega]
  · rw [e71, u_ne (by decide), u_ne (by decide), u_ne (by decide), d1 88 (by decide)]; exact a1
  · rw [e71, u_eq rfl, d1 70 (by decide)]; exact b
  · rw [e71, u_ne (by decide), u_ne (by decide), u_ne (by decide), d1 83 (by decide)]; exact a2
  · rw [e71, u_ne (by decide), u_ne (by decide), u_ne (by decide), d1 93 (by decide)]; exact e1
  · rw [e71, u_ne (by decide), u_ne (by decide), u_ne (by decide), d1 91 (by decide)]; exact a3
  · rw [e71, u_ne (by decide), u_ne (by decide), u_ne (by decide), d1 92 (by decide)]; exact a4
  · rw [e71, u_ne (by decide), u_ne (by decide), u_ne (by decide)]; exact e2
  · rw [d1 95 (by decide)]; exact e3
  · rw [e73, d3]; exact hel i hi
  · rw [e71, u_ne (by decide), u_ne (by decide), u_ne (by decide), d1 96 (by decide)]; exact e5
  · rw [d1 96 (by decide)]; exact e6
