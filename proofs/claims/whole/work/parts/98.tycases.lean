/-! TYPING, 15: how many cases; the end of typing. -/
def cnt (t : Nat → Nat) : Nat → Nat
  | 0 => 1
  | i + 1 => cnt t i * tyQ (t i)
theorem tyQ_le (t : Nat) : tyQ t ≤ 6 ∧ 2 ≤ tyQ t := by unfold tyQ; split <;> (try split) <;> omega
theorem cnt_le (t : Nat → Nat) : ∀ i, cnt t i ≤ 6 ^ i := by
  intro i
  induction i with
  | zero => exact Nat.le_refl _
  | succ i ih => exact Nat.mul_le_mul ih (tyQ_le (t i)).1
theorem cnt_lt (t : Nat → Nat) {i : Nat} (h : i ≤ 8) : cnt t i ≤ 1679616 := Nat.le_trans (cnt_le t i) (Nat.pow_le_pow_right (by omega) h)
theorem cnt_pos (t : Nat → Nat) : ∀ i, 1 ≤ cnt t i := by
  intro i
  induction i with
  | zero => exact Nat.le_refl _
  | succ i ih =>
    have := (tyQ_le (t i)).2
    exact Nat.le_trans (show 1 ≤ 1 * 1 by omega) (Nat.mul_le_mul ih (by omega))
theorem told_ttell {τ : jx_S} (h : τ.1 1 0 ≠ 0) (n x : Int32) : p_cTyp_tell n x τ = some τ := by
  unfold p_cTyp_tell p_cFau_tell
  rw [if_pos h]; rfl
/-- the class counts -/
theorem c_count {τ : jx_S} {f p : Nat} {t : Nat → Nat} (hf : f < 40) (h43 : τ.1 43 f = nI p) (hp : p ≤ 8) (h57 : ∀ i, i < p → t i < 14 ∧ τ.1 57 (30 * f + i) = nI (t i)) : p_cTyp_countCases (nI f) τ = if cnt t p ≤ 1000 then some (jI_put 40 τ 53 (nI f) (nI (cnt t p))) else ((p_cTyp_tell 8 (τ.1 41 f) τ).bind fun q => some (jI_put 40 q 53 (nI f) (nI (cnt t p)))) := by
  unfold p_cTyp_countCases p_cTyp_countCases_4
  have hc := cnt_lt t hp
  refine jx_loop_for (fun i => (nI f, nI (cnt t i), nI i, τ)) p (fun i hi => ?_) ?_ (by omega)
  · show p_cTyp_countCases_4_s (nI f) (nI (cnt t i)) (nI i) τ = _
    unfold p_cTyp_countCases_4_s v_cFun_typeOf
    rw [jI_at_in (by omega) (by omega), h43, if_neg (nI_ge hi (by omega)), show nI f * (30 : Int32) = nI (f * 30) from nI_mul f 30, nI_add, jI_at_in (by omega) (by omega), show f * 30 + i = 30 * f + i by omega, (h57 i hi).2, c_points τ (h57 i hi).1, nI_mul, ← nI_succ]
    rfl
  · show p_cTyp_countCases_4_s (nI f) (nI (cnt t p)) (nI p) τ = _
    unfold p_cTyp_countCases_4_s p_cTyp_countCases_64
    rw [jI_at_in (by omega) (by omega), h43, if_pos (nI_le (Nat.le_refl _) (by omega))]
    by_cases h : cnt t p ≤ 1000
    · rw [if_pos (show nI (cnt t p) ≤ (1000 : Int32) from (nI_le h (by omega) : nI (cnt t p) ≤ nI 1000)), if_pos h]
    · rw [if_neg (show ¬ nI (cnt t p) ≤ (1000 : Int32) from (nI_ge (by omega) (by omega) : ¬ nI (cnt t p) ≤ nI 1000)), if_neg h, jI_at_in (by omega) (by omega)]
/-- the reference counts -/
theorem r_count {ρ : jx_S} {f p tk P : Nat} {t : Nat → Nat} (hf : f < 40) (h127 : ρ.1 127 f = nI p) (hp : p ≤ 8) (h135 : ∀ i, i < p → t i < 14 ∧ ρ.1 135 (8 * f + i) = nI (t i)) (h126 : ρ.1 126 f = nI tk) (htk : tk < 1202) (h109 : ρ.1 109 tk = nI P) (h4 : ρ.1 106 4 = 0) : p_r_countCases_14 (nI f) 1 0 ρ = if cnt t p ≤ 1000 then some (.inl (nI (f + 1), jx_i ρ 133 f (nI (cnt t p)))) else some (.inr (0, rtell ρ 8 (nI P))) := by
  unfold p_r_countCases_14
  have hc := cnt_lt t hp
  refine jx_loop_for (fun i => (nI f, nI (cnt t i), nI i, ρ)) p (fun i hi => ?_) ?_ (by omega)
  · show p_r_countCases_14_s (nI f) (nI (cnt t i)) (nI i) ρ = _
    unfold p_r_countCases_14_s
    have e8 : (8 : Int32) * nI f + nI i = nI (8 * f + i) := by rw [show (8 : Int32) = nI 8 from rfl, nI_mul, nI_add]
    rw [if_neg (nI_in hf (by omega)), nI_clamp (show f < 2 ^ 31 by omega), h127, if_neg (nI_ge hi (by omega)), e8, if_neg (nI_in (show 8 * f + i < 320 by omega) (by omega)), nI_clamp (show 8 * f + i < 2 ^ 31 by omega), (h135 i hi).2, r_points ρ (h135 i hi).1, nI_mul, ← nI_succ]
    rfl
  · show p_r_countCases_14_s (nI f) (nI (cnt t p)) (nI p) ρ = _
    unfold p_r_countCases_14_s
    have n1 : ¬ (nI f < 0 ∨ 40 ≤ f) := fun q => by
      rcases q with q | q
      · exact nI_pos (by omega) q
      · omega
    rw [if_neg (nI_in hf (by omega)), nI_clamp (show f < 2 ^ 31 by omega), h127, if_pos (nI_le (Nat.le_refl _) (by omega)), if_neg n1, if_neg n1, h126, if_neg (nI_in htk (by omega)), nI_clamp (show tk < 2 ^ 31 by omega), h109, r_fails7 h4 8 P]
    by_cases h : cnt t p ≤ 1000
    · rw [if_pos (show nI (cnt t p) ≤ (1000 : Int32) from (nI_le h (by omega) : nI (cnt t p) ≤ nI 1000)), if_pos h, ← nI_succ]
    · rw [if_neg (show ¬ nI (cnt t p) ≤ (1000 : Int32) from (nI_ge (by omega) (by omega) : ¬ nI (cnt t p) ≤ nI 1000)), if_neg h]
      rfl
def TT (τ τ' : jx_S) : Prop := (∀ r, r ≠ 37 → r ≠ 53 → τ'.1 r = τ.1 r) ∧ τ'.2 = τ.2
theorem TT_trans {τ τ1 τ2 : jx_S} (h : TT τ τ1) (k : TT τ1 τ2) : TT τ τ2 := ⟨fun r h1 h2 => (k.1 r h1 h2).trans (h.1 r h1 h2), k.2.trans h.2⟩
def c61 : Int32 × jx_S → Option ((Int32 × jx_S) ⊕ jx_S) := fun s => p_cTyp_check_61_s s.1 (s.2)
def c37 : Int32 × jx_S → Option ((Int32 × jx_S) ⊕ jx_S) := fun s => p_cTyp_check_37_s s.1 (s.2)
def PT (F : Nat) (pN : Nat → Nat) (ty : Nat → Nat → Nat) (τ : jx_S) : Prop := ∀ g, g < F → τ.1 43 g = nI (pN g) ∧ pN g ≤ 8 ∧ ∀ i, i < pN g → ty g i < 14 ∧ τ.1 57 (30 * g + i) = nI (ty g i)
theorem PT_of {E : jEn} {F : Nat} {pN bN lN' tk' : Nat → Nat} {ty : Nat → Nat → Nat} {τ ρ : jx_S} (h : FD E F pN bN lN' tk' ty τ ρ) : PT F pN ty τ := fun g hg => by
  obtain ⟨d1, d2, d3, d4, d5, d6, d7, d8, d9, _⟩ := h g hg
  exact ⟨d1, d3, fun i hi => ⟨(d9 i (by omega)).1, (d9 i (by omega)).2.1⟩⟩
theorem PT_keep {F : Nat} {pN : Nat → Nat} {ty : Nat → Nat → Nat} {τ τ' : jx_S} (h : PT F pN ty τ) (h1 : τ'.1 43 = τ.1 43) (h2 : τ'.1 57 = τ.1 57) : PT F pN ty τ' := by
  unfold PT at *; rw [h1, h2]; exact h
/-- what the class does once a fault is told -/
theorem told_61 {F : Nat} {pN : Nat → Nat} {ty : Nat → Nat → Nat} (hF : F ≤ 40) : ∀ n f N τ, F - f = n → f ≤ F → n < N → τ.1 1 0 ≠ 0 → τ.1 4 10 = nI F → PT F pN ty τ → ∃ τ', jx_loop N c61 (nI f, τ) = some τ' ∧ TT τ τ' := by
  intro n
  induction n with
  | zero =>
    intro f N τ hn hf hN h0 h10 hP
    obtain ⟨N, rfl⟩ : ∃ K, N = K + 1 := ⟨N - 1, by omega⟩
    refine ⟨τ, jx_loop_inr (b := τ) ?_, fun _ _ _ => rfl, rfl⟩
    show p_cTyp_check_61_s (nI f) τ = _
    unfold p_cTyp_check_61_s
    rw [h10, if_pos (nI_le (by omega) (by omega))]
    rfl
  | succ n ih =>
    intro f N τ hn hf hN h0 h10 hP
    obtain ⟨N, rfl⟩ : ∃ K, N = K + 1 := ⟨N - 1, by omega⟩
    obtain ⟨p1, p2, p3⟩ := hP f (by omega)
    have e1 : p_cTyp_countCases (nI f) τ = some (jI_put 40 τ 53 (nI f) (nI (cnt (ty f) (pN f)))) := by
      rw [c_count (by omega) p1 p2 p3, told_ttell h0, Option.bind_some, ite_self]
    have k : TT τ (jI_put 40 τ 53 (nI f) (nI (cnt (ty f) (pN f)))) := ⟨fun r _ h2 => s_p_ne h2, rfl⟩
    obtain ⟨τ', y1, y2⟩ := ih (f + 1) N (jI_put 40 τ 53 (nI f) (nI (cnt (ty f) (pN f)))) (by omega) (by omega) (by omega) (by rw [s_p_ne (by decide)]; exact h0) (by rw [s_p_ne (by decide)]; exact h10) (PT_keep hP (s_p_ne (by decide)) (s_p_ne (by decide)))
    refine ⟨τ', ?_, TT_trans k y2⟩
    rw [jx_loop_inl (s1 := (nI (f + 1), jI_put 40 τ 53 (nI f) (nI (cnt (ty f) (pN f))))) ?_, y1]
    show p_cTyp_check_61_s (nI f) τ = _
    unfold p_cTyp_check_61_s
    rw [h10, if_neg (nI_ge (by omega) (by omega)), e1, Option.bind_some, ← nI_succ]
theorem told_37 {F : Nat} {pN : Nat → Nat} {ty : Nat → Nat → Nat} (hF : F ≤ 40) : ∀ n f N τ, F - f = n → f ≤ F → n < N → τ.1 1 0 ≠ 0 → τ.1 4 10 = nI F → PT F pN ty τ → ∃ τ', jx_loop N c37 (nI f, τ) = some τ' ∧ TT τ τ' := by
  intro n
  induction n with
  | zero =>
    intro f N τ hn hf hN h0 h10 hP
    obtain ⟨N, rfl⟩ : ∃ K, N = K + 1 := ⟨N - 1, by omega⟩
    obtain ⟨τ', y1, y2⟩ := told_61 hF F 0 100000000 τ (by omega) (by omega) (by omega) h0 h10 hP
    refine ⟨τ', jx_loop_inr (b := τ') ?_, y2⟩
    show p_cTyp_check_37_s (nI f) τ = _
    unfold p_cTyp_check_37_s
    rw [h10, if_pos (nI_le (by omega) (by omega))]
    show Option.map Sum.inr (jx_loop 100000000 c61 (nI 0, τ)) = _
    rw [y1]; rfl
  | succ n ih =>
    intro f N τ hn hf hN h0 h10 hP
    obtain ⟨N, rfl⟩ : ∃ K, N = K + 1 := ⟨N - 1, by omega⟩
    have e1 : ∃ τ1, p_cTyp_checkBody (nI f) τ = some τ1 ∧ TT τ τ1 := by
      unfold p_cTyp_checkBody p_cTyp_checkBody_36
      have hk : (jI_put 1201 τ 37 (jI_at 40 (τ.1 51) (nI f)) (jI_at 40 (τ.1 45) (nI f))).1 1 0 ≠ 0 := by rw [s_p_ne (by decide)]; exact h0
      refine ⟨jI_put 1201 τ 37 (jI_at 40 (τ.1 51) (nI f)) (jI_at 40 (τ.1 45) (nI f)), jx_loop_inr ?_, fun r h1 _ => s_p_ne h1, rfl⟩
      generalize jI_put 1201 τ 37 (jI_at 40 (τ.1 51) (nI f)) (jI_at 40 (τ.1 45) (nI f)) = τ1 at *
      show p_cTyp_checkBody_36_s (nI f) (jI_at 40 (τ.1 51) (nI f)) 0 τ1 = _
      unfold p_cTyp_checkBody_36_s
      rw [told_v hk, if_neg (by decide)]
      split
      · rfl
      · rw [if_pos (by decide)]; rfl
    obtain ⟨τ1, e1, k⟩ := e1
    obtain ⟨τ', y1, y2⟩ := ih (f + 1) N τ1 (by omega) (by omega) (by omega) (by rw [k.1 1 (by decide) (by decide)]; exact h0) (by rw [k.1 4 (by decide) (by decide)]; exact h10) (PT_keep hP (k.1 43 (by decide) (by decide)) (k.1 57 (by decide) (by decide)))
    refine ⟨τ', ?_, TT_trans k y2⟩
    rw [jx_loop_inl (s1 := (nI (f + 1), τ1)) ?_, y1]
    show p_cTyp_check_37_s (nI f) τ = _
    unfold p_cTyp_check_37_s
    rw [h10, if_neg (nI_ge (by omega) (by omega)), e1, Option.bind_some, ← nI_succ]
