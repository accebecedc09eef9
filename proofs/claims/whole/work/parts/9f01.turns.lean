/-! TURNS: one turn of the law, at one state. -/
theorem eqR_of {ms : List Nat} {fs : List (Nat × Nat)} {σ τ : jx_S} (h : jFr ms fs σ τ) (a : ms.all (fun k => decide (k < 106)) = true) (b : fs.all (fun q => decide (q.1 < 106)) = true) : eqR σ τ ∧ τ.2 171 0 = σ.2 171 0 := by
  have a' : ∀ k, 106 ≤ k → k ∉ ms := fun k hk q => by
    have := List.all_eq_true.mp a k q
    simp at this; omega
  have b' : ∀ k j, 106 ≤ k → (k, j) ∉ fs := fun k j hk q => by
    have := List.all_eq_true.mp b (k, j) q
    simp at this; omega
  exact ⟨fun k j h1 _ => h k j (a' k h1) (b' k j h1), (h 171 0 (a' 171 (by omega)) (b' 171 0 (by omega))).2⟩
theorem eqC_of {ms : List Nat} {fs : List (Nat × Nat)} {σ τ : jx_S} (h : jFr ms fs σ τ) (a : ms.all (fun k => decide (106 ≤ k ∧ k < 171)) = true) (b : fs.all (fun q => decide (106 ≤ q.1 ∧ q.1 < 171)) = true) : eqC σ τ ∧ τ.2 171 0 = σ.2 171 0 := by
  have a' : ∀ k, k < 106 ∨ 171 ≤ k → k ∉ ms := fun k hk q => by
    have := List.all_eq_true.mp a k q
    simp at this; omega
  have b' : ∀ k j, k < 106 ∨ 171 ≤ k → (k, j) ∉ fs := fun k j hk q => by
    have := List.all_eq_true.mp b (k, j) q
    simp at this; omega
  exact ⟨fun k j h1 => h k j (a' k (Or.inl h1)) (b' k j (Or.inl h1)), (h 171 0 (a' 171 (by omega)) (b' 171 0 (by omega))).2⟩
theorem eqC_rf {σ : jx_S} : eqC σ σ := fun _ _ _ => ⟨rfl, rfl⟩
theorem eqR_rf {σ : jx_S} : eqR σ σ := fun _ _ _ _ => ⟨rfl, rfl⟩
theorem turnT {pc pr : jx_S → Option (Int32 × jx_S)} {K : Int32 → jx_S → Prop} {msc msr : List Nat} {fsc fsr : List (Nat × Nat)} (hfc : ∀ σ t, pc σ = some t → jFr msc fsc σ t.2) (hfr : ∀ σ t, pr σ = some t → jFr msr fsr σ t.2) (a1 : msc.all (fun k => decide (k < 106)) = true) (a2 : fsc.all (fun q => decide (q.1 < 106)) = true) (a3 : msr.all (fun k => decide (106 ≤ k ∧ k < 171)) = true) (a4 : fsr.all (fun q => decide (106 ≤ q.1 ∧ q.1 < 171)) = true)
    (hK : ∀ k σ, K k σ → pc σ = none) (H : ∀ τ ρ, IV2 τ ρ → (∃ r τ' ρ', pc τ = some (r, τ') ∧ pr ρ = some (r, ρ') ∧ ρ'.1 106 2 = 0 ∧ IV2 τ' ρ') ∨ (∃ k ρ', K k τ ∧ pr ρ = some (0, ρ') ∧ ρ'.1 106 2 = k ∧ IV2 τ ρ')) {σ : jx_S} (h : IV2 σ σ) :
    (∃ r σ1 σ2, pc σ = some (r, σ1) ∧ pr (jx_l σ1 171 0 r.toInt64) = some (r, σ2) ∧ σ2.1 106 2 = 0 ∧ σ2.2 171 0 = r.toInt64 ∧ IV2 σ2 σ2) ∨ (∃ k σ2, K k σ ∧ pr σ = some (0, σ2) ∧ σ2.1 106 2 = k ∧ IV2 σ2 σ2) := by
  rcases H σ σ h with ⟨r, τ', ρ', q1, -, -, -⟩ | ⟨k, ρ', q1, q2, q3, q4⟩
  · have e1 := (eqR_of (hfc σ _ q1) a1 a2).1
    have e2 : eqR σ (jx_l τ' 171 0 r.toInt64) := fun k j h1 h2 => ⟨(e1 k j h1 h2).1, by
      show (if k = 171 ∧ j = 0 then r.toInt64 else τ'.2 k j) = _
      rw [if_neg (fun q => by omega)]; exact (e1 k j h1 h2).2⟩
    rcases H σ (jx_l τ' 171 0 r.toInt64) (IV2_move h eqC_rf e2) with ⟨r2, τ2, ρ2, w1, w2, w3, w4⟩ | ⟨k, ρ2, w1, -⟩
    · rw [q1] at w1
      cases w1
      have e3 := eqC_of (hfr _ _ w2) a3 a4
      have e4 : eqC τ' ρ2 := fun k j h1 => ⟨(e3.1 k j h1).1, (e3.1 k j h1).2.trans (by
        show (if k = 171 ∧ j = 0 then r.toInt64 else τ'.2 k j) = _
        rw [if_neg (fun q => by omega)])⟩
      exact Or.inl ⟨r, τ', ρ2, q1, w2, w3, e3.2.trans (by show (if (171 : Nat) = 171 ∧ (0 : Nat) = 0 then r.toInt64 else τ'.2 171 0) = r.toInt64; rw [if_pos ⟨rfl, rfl⟩]), IV2_move w4 e4 eqR_rf⟩
    · rw [hK k σ w1] at q1; cases q1
  · exact Or.inr ⟨k, ρ', q1, q2, q3, IV2_move q4 (eqC_of (hfr _ _ q2) a3 a4).1 eqR_rf⟩
theorem turnN {pc pr : jx_S → Option (Int32 × jx_S)} {msc msr : List Nat} {fsc fsr : List (Nat × Nat)} (hfc : ∀ σ t, pc σ = some t → jFr msc fsc σ t.2) (hfr : ∀ σ t, pr σ = some t → jFr msr fsr σ t.2) (a1 : msc.all (fun k => decide (k < 106)) = true) (a2 : fsc.all (fun q => decide (q.1 < 106)) = true) (a3 : msr.all (fun k => decide (106 ≤ k ∧ k < 171)) = true) (a4 : fsr.all (fun q => decide (106 ≤ q.1 ∧ q.1 < 171)) = true)
    (H : ∀ τ ρ, IV2 τ ρ → ∃ r τ' ρ', pc τ = some (r, τ') ∧ pr ρ = some (r, ρ') ∧ IV2 τ' ρ') {σ : jx_S} (h : IV2 σ σ) : ∃ r σ1 σ2, pc σ = some (r, σ1) ∧ pr σ1 = some (r, σ2) ∧ IV2 σ2 σ2 := by
  obtain ⟨r, τ', ρ', q1, -, -⟩ := H σ σ h
  have e1 := (eqR_of (hfc σ _ q1) a1 a2).1
  obtain ⟨r2, τ2, ρ2, w1, w2, w3⟩ := H σ τ' (IV2_move h eqC_rf e1)
  rw [q1] at w1
  cases w1
  exact ⟨r, τ', ρ2, q1, w2, IV2_move w3 (eqC_of (hfr _ _ w2) a3 a4).1 eqR_rf⟩
theorem no_feed {x1 : Int32} {x2 : Int64} {σ : jx_S} (h : x1 < 1 ∨ 8 < x1 ∨ ¬ σ.1 0 10 + x1 ≤ 4000) : p_cl_feed x1 x2 σ = none := by
  unfold p_cl_feed
  by_cases c1 : x1 < 1
  · rw [if_pos c1]
  · rw [if_neg c1]
    by_cases c2 : (8 : Int32) < x1
    · rw [if_pos c2]
    · rw [if_neg c2, if_neg (by
        rcases h with q | q | q
        · exact absurd q c1
        · exact absurd q c2
        · exact q)]
theorem no_function {x1 x2 : Int32} {σ : jx_S} (h : v_cl_hasFunction x1 σ = 0 ∨ (v_cl_hasFunction x1 σ = 1 ∧ (x2 < 0 ∨ ¬ x2 ≤ 6))) : p_cl_function x1 x2 σ = none := by
  unfold p_cl_function
  by_cases c0 : v_cl_hasFunction x1 σ = 0
  · rw [if_pos c0]
  · rw [if_neg c0]
    by_cases c1 : x2 < 0
    · rw [if_pos c1]
    · rw [if_neg c1, if_neg (by
        rcases h with q | ⟨-, q | q⟩
        · exact absurd q c0
        · exact absurd q c1
        · exact q)]
theorem no_param {x1 x2 x3 : Int32} {σ : jx_S} (h : v_cl_hasFunction x1 σ = 0 ∨ (v_cl_hasFunction x1 σ = 1 ∧ (x2 < 0 ∨ (jI_at 40 (σ.1 43) x1) ≤ x2 ∨ x3 < 0 ∨ ¬ x3 ≤ 1))) : p_cl_parameter x1 x2 x3 σ = none := by
  unfold p_cl_parameter
  by_cases c0 : v_cl_hasFunction x1 σ = 0
  · rw [if_pos c0]
  · rw [if_neg c0]
    by_cases c1 : x2 < 0
    · rw [if_pos c1]
    · rw [if_neg c1]
      by_cases c2 : (jI_at 40 (σ.1 43) x1) ≤ x2
      · rw [if_pos c2]
      · rw [if_neg c2]
        by_cases c3 : x3 < 0
        · rw [if_pos c3]
        · rw [if_neg c3, if_neg (by
            rcases h with q | ⟨-, q | q | q | q⟩
            · exact absurd q c0
            · exact absurd q c1
            · exact absurd q c2
            · exact absurd q c3
            · exact q)]
theorem no_value {x1 x2 : Int32} {σ : jx_S} (h : v_cl_hasFunction x1 σ = 0 ∨ (v_cl_hasFunction x1 σ = 1 ∧ (x2 < 0 ∨ ¬ x2 < jI_at 40 (σ.1 53) x1))) : p_cl_value x1 x2 σ = none := by
  unfold p_cl_value
  by_cases c0 : v_cl_hasFunction x1 σ = 0
  · rw [if_pos c0]
  · rw [if_neg c0]
    by_cases c1 : x2 < 0
    · rw [if_pos c1]
    · rw [if_neg c1, if_neg (by
        rcases h with q | ⟨-, q | q⟩
        · exact absurd q c0
        · exact absurd q c1
        · exact q)]
theorem no_arg {v : Int32} {σ : jx_S} (h : ¬ σ.1 0 11 < 8) : p_cl_argument v σ = none := by
  unfold p_cl_argument
  rw [if_neg h]
theorem no_told {v : Int32} {σ : jx_S} (h : v < 0 ∨ ¬ v < 10) : p_cl_told v σ = none := by
  unfold p_cl_told
  by_cases c1 : v < 0
  · rw [if_pos c1]
  · rw [if_neg c1, if_neg (h.resolve_left c1)]
theorem no_element {v : Int32} {σ : jx_S} (h : v < 0 ∨ ¬ v < jI_at 10 (σ.1 71) (6 : Int32)) : p_cl_element v σ = none := by
  unfold p_cl_element
  by_cases c1 : v < 0
  · rw [if_pos c1]
  · rw [if_neg c1, if_neg (h.resolve_left c1)]
