/-! TURNS, 2: each call. -/
theorem no_run {x1 x2 x3 : Int32} {σ : jx_S} (h : v_cl_hasFunction x1 σ = 0 ∨ (v_cl_hasFunction x1 σ = 1 ∧ (x2 < 0 ∨ 50000 < x2 ∨ p_cFun_takesInts x1 (σ.1 0 11) σ = some (0, σ)))) : p_cl_run x1 x2 x3 σ = none := by
  unfold p_cl_run
  by_cases c0 : v_cl_hasFunction x1 σ = 0
  · rw [if_neg (fun q => q c0)]
  · rw [if_pos c0]
    by_cases c1 : x2 < 0
    · rw [if_pos c1]
    · rw [if_neg c1]
      by_cases c2 : (50000 : Int32) < x2
      · rw [if_pos c2]
      · rw [if_neg c2]
        rcases h with q | ⟨-, q | q | q⟩
        · exact absurd q c0
        · exact absurd q c1
        · exact absurd q c2
        · rw [q]; rfl
/-- what a turn that may throw comes to -/
def tnT (pc pr : jx_S → Option (Int32 × jx_S)) (K : Int32 → jx_S → Prop) (σ : jx_S) : Prop := (∃ r σ1 σ2, pc σ = some (r, σ1) ∧ pr (jx_l σ1 171 0 r.toInt64) = some (r, σ2) ∧ σ2.1 106 2 = 0 ∧ σ2.2 171 0 = r.toInt64 ∧ IV2 σ2 σ2) ∨ (∃ k σ2, K k σ ∧ pr σ = some (0, σ2) ∧ σ2.1 106 2 = k ∧ IV2 σ2 σ2)
def tnN (pc pr : jx_S → Option (Int32 × jx_S)) (σ : jx_S) : Prop := ∃ r σ1 σ2, pc σ = some (r, σ1) ∧ pr σ1 = some (r, σ2) ∧ IV2 σ2 σ2
def kFeed (x1 : Int32) (k : Int32) (σ : jx_S) : Prop := k = 1 ∧ (x1 < 1 ∨ 8 < x1 ∨ ¬ σ.1 0 10 + x1 ≤ 4000)
def kFunction (x1 x2 : Int32) (k : Int32) (σ : jx_S) : Prop := k = 1 ∧ (v_cl_hasFunction x1 σ = 0 ∨ (v_cl_hasFunction x1 σ = 1 ∧ (x2 < 0 ∨ ¬ x2 ≤ 6)))
def kParam (x1 x2 x3 : Int32) (k : Int32) (σ : jx_S) : Prop := k = 1 ∧ (v_cl_hasFunction x1 σ = 0 ∨ (v_cl_hasFunction x1 σ = 1 ∧ (x2 < 0 ∨ (jI_at 40 (σ.1 43) x1) ≤ x2 ∨ x3 < 0 ∨ ¬ x3 ≤ 1)))
def kValue (x1 x2 : Int32) (k : Int32) (σ : jx_S) : Prop := k = 1 ∧ (v_cl_hasFunction x1 σ = 0 ∨ (v_cl_hasFunction x1 σ = 1 ∧ (x2 < 0 ∨ ¬ x2 < jI_at 40 (σ.1 53) x1)))
def kArg (k : Int32) (σ : jx_S) : Prop := k = 1 ∧ ¬ σ.1 0 11 < 8
def kTold (v : Int32) (k : Int32) (_ : jx_S) : Prop := k = 1 ∧ (v < 0 ∨ ¬ v < 10)
def kElement (v : Int32) (k : Int32) (σ : jx_S) : Prop := k = 1 ∧ (v < 0 ∨ ¬ v < jI_at 10 (σ.1 71) (6 : Int32))
def kRun (x1 x2 : Int32) (k : Int32) (σ : jx_S) : Prop := (k = 1 ∧ v_cl_hasFunction x1 σ = 0) ∨ (k = 2 ∧ (v_cl_hasFunction x1 σ = 1 ∧ (x2 < 0 ∨ 50000 < x2 ∨ p_cFun_takesInts x1 (σ.1 0 11) σ = some (0, σ))))
theorem t_feed {σ : jx_S} (h : IV2 σ σ) (x1 : Int32) (x2 : Int64) : tnT (p_cl_feed x1 x2) (p_r_feed x1 x2) (kFeed x1) σ := by
  refine turnT (K := kFeed x1) (fun σ t q => f_cl_feed σ x1 x2 σ jFr.rfl t q) (fun σ t q => f_r_feed σ x1 x2 σ jFr.rfl t q) (by decide) (by decide) (by decide) (by decide) (fun k σ q => no_feed q.2) (fun τ ρ h => ?_) h
  rcases call_feed h x1 x2 with q | ⟨q1, ρ', q2, q3, q4⟩
  · exact Or.inl q
  · exact Or.inr ⟨1, ρ', ⟨rfl, q1⟩, q2, q3, q4⟩
theorem t_arg {σ : jx_S} (h : IV2 σ σ) (x1 : Int32) : tnT (p_cl_argument x1) (p_r_argument x1) kArg σ := by
  refine turnT (K := kArg) (fun σ t q => f_cl_argument σ x1 σ jFr.rfl t q) (fun σ t q => f_r_argument σ x1 σ jFr.rfl t q) (by decide) (by decide) (by decide) (by decide) (fun k σ q => no_arg q.2) (fun τ ρ h => ?_) h
  rcases call_arg h x1 with q | ⟨q1, ρ', q2, q3, q4⟩
  · exact Or.inl q
  · exact Or.inr ⟨1, ρ', ⟨rfl, q1⟩, q2, q3, q4⟩
theorem t_told {σ : jx_S} (h : IV2 σ σ) (x1 : Int32) : tnT (p_cl_told x1) (p_r_told x1) (kTold x1) σ := by
  refine turnT (K := kTold x1) (fun σ t q => f_cl_told σ x1 σ jFr.rfl t q) (fun σ t q => f_r_told σ x1 σ jFr.rfl t q) (by decide) (by decide) (by decide) (by decide) (fun k σ q => no_told q.2) (fun τ ρ h => ?_) h
  rcases call_told h x1 with ⟨r, ρ', q1, q2, q3, q4⟩ | ⟨q1, ρ', q2, q3, q4⟩
  · exact Or.inl ⟨r, τ, ρ', q1, q2, q3, q4⟩
  · exact Or.inr ⟨1, ρ', ⟨rfl, q1⟩, q2, q3, q4⟩
theorem t_element {σ : jx_S} (h : IV2 σ σ) (x1 : Int32) : tnT (p_cl_element x1) (p_r_element x1) (kElement x1) σ := by
  refine turnT (K := kElement x1) (fun σ t q => f_cl_element σ x1 σ jFr.rfl t q) (fun σ t q => f_r_element σ x1 σ jFr.rfl t q) (by decide) (by decide) (by decide) (by decide) (fun k σ q => no_element q.2) (fun τ ρ h => ?_) h
  rcases call_element h x1 with ⟨r, ρ', q1, q2, q3, q4⟩ | ⟨q1, ρ', q2, q3, q4⟩
  · exact Or.inl ⟨r, τ, ρ', q1, q2, q3, q4⟩
  · exact Or.inr ⟨1, ρ', ⟨rfl, q1⟩, q2, q3, q4⟩
theorem t_function {σ : jx_S} (h : IV2 σ σ) (x1 x2 : Int32) : tnT (p_cl_function x1 x2) (p_r_function2 x1 x2) (kFunction x1 x2) σ := by
  refine turnT (K := kFunction x1 x2) (fun σ t q => f_cl_function σ x1 x2 σ jFr.rfl t q) (fun σ t q => f_r_function2 σ x1 x2 σ jFr.rfl t q) (by decide) (by decide) (by decide) (by decide) (fun k σ q => no_function q.2) (fun τ ρ h => ?_) h
  rcases call_function h x1 x2 with ⟨r, ρ', q1, q2, q3, q4⟩ | ⟨q1, ρ', q2, q3, q4⟩
  · exact Or.inl ⟨r, τ, ρ', q1, q2, q3, q4⟩
  · exact Or.inr ⟨1, ρ', ⟨rfl, q1⟩, q2, q3, q4⟩
theorem t_value {σ : jx_S} (h : IV2 σ σ) (x1 x2 : Int32) : tnT (p_cl_value x1 x2) (p_r_value x1 x2) (kValue x1 x2) σ := by
  refine turnT (K := kValue x1 x2) (fun σ t q => f_cl_value σ x1 x2 σ jFr.rfl t q) (fun σ t q => f_r_value σ x1 x2 σ jFr.rfl t q) (by decide) (by decide) (by decide) (by decide) (fun k σ q => no_value q.2) (fun τ ρ h => ?_) h
  rcases call_value h x1 x2 with ⟨r, ρ', q1, q2, q3, q4⟩ | ⟨q1, ρ', q2, q3, q4⟩
  · exact Or.inl ⟨r, τ, ρ', q1, q2, q3, q4⟩
  · exact Or.inr ⟨1, ρ', ⟨rfl, q1⟩, q2, q3, q4⟩
theorem t_param {σ : jx_S} (h : IV2 σ σ) (x1 x2 x3 : Int32) : tnT (p_cl_parameter x1 x2 x3) (p_r_parameter3 x1 x2 x3) (kParam x1 x2 x3) σ := by
  refine turnT (K := kParam x1 x2 x3) (fun σ t q => f_cl_parameter σ x1 x2 x3 σ jFr.rfl t q) (fun σ t q => f_r_parameter3 σ x1 x2 x3 σ jFr.rfl t q) (by decide) (by decide) (by decide) (by decide) (fun k σ q => no_param q.2) (fun τ ρ h => ?_) h
  rcases call_param h x1 x2 x3 with ⟨r, ρ', q1, q2, q3, q4⟩ | ⟨q1, ρ', q2, q3, q4⟩
  · exact Or.inl ⟨r, τ, ρ', q1, q2, q3, q4⟩
  · exact Or.inr ⟨1, ρ', ⟨rfl, q1⟩, q2, q3, q4⟩
theorem t_run {σ : jx_S} (h : IV2 σ σ) (x1 x2 x3 : Int32) (hq : x3 = 0 ∨ x3 = 1) : tnT (p_cl_run x1 x2 x3) (p_r_run x1 x2 x3) (kRun x1 x2) σ := by
  refine turnT (K := kRun x1 x2) (fun σ t q => f_cl_run σ x1 x2 x3 σ jFr.rfl t q) (fun σ t q => f_r_run σ x1 x2 x3 σ jFr.rfl t q) (by decide) (by decide) (by decide) (by decide) (fun k σ q => no_run (by rcases q with q | q; exact Or.inl q.2; exact Or.inr q.2)) (fun τ ρ h => ?_) h
  rcases call_run h x1 x2 x3 hq with q | ⟨q1, ρ', q2, q3, q4⟩ | ⟨q1, ρ', q2, q3, q4⟩
  · exact Or.inl q
  · exact Or.inr ⟨1, ρ', Or.inl ⟨rfl, q1⟩, q2, q3, q4⟩
  · exact Or.inr ⟨2, ρ', Or.inr ⟨rfl, q1⟩, q2, q3, q4⟩
theorem t_wipe {σ : jx_S} (h : IV2 σ σ) : tnN p_cl_wipe p_r_wipe σ := turnN (fun σ t q => f_cl_wipe σ σ jFr.rfl t q) (fun σ t q => f_r_wipe σ σ jFr.rfl t q) (by decide) (by decide) (by decide) (by decide) (fun _ _ h => call_wipe h) h
theorem t_compile {σ : jx_S} (h : IV2 σ σ) : tnN p_cl_compile p_r_compile σ := turnN (fun σ t q => f_cl_compile σ σ jFr.rfl t q) (fun σ t q => f_r_compile σ σ jFr.rfl t q) (by decide) (by decide) (by decide) (by decide) (fun _ _ h => call_compile h) h
theorem t_strict {σ : jx_S} (h : IV2 σ σ) (x1 : Int32) : tnN (p_cl_isStrict x1) (p_r_isStrict x1) σ := turnN (fun σ t q => f_cl_isStrict σ x1 σ jFr.rfl t q) (fun σ t q => f_r_isStrict σ x1 σ jFr.rfl t q) (by decide) (by decide) (by decide) (by decide) (fun τ _ h => by
  obtain ⟨r, ρ', q1, q2, q3⟩ := call_strict h x1
  exact ⟨r, τ, ρ', q1, q2, q3⟩) h
theorem t_place {σ : jx_S} (h : IV2 σ σ) : ∃ σ2, p_r_place σ = some (v_cl_place σ, σ2) ∧ IV2 σ2 σ2 := ⟨_, (call_place h).1, IV2_move (call_place h).2 (eqC_of (f_r_place σ σ jFr.rfl _ (call_place h).1) (by decide) (by decide)).1 eqR_rf⟩
theorem t_functions {σ : jx_S} (h : IV2 σ σ) : ∃ σ2, p_r_functions σ = some (v_cl_functions σ, σ2) ∧ IV2 σ2 σ2 := ⟨_, (call_functions h).1, IV2_move (call_functions h).2 (eqC_of (f_r_functions σ σ jFr.rfl _ (call_functions h).1) (by decide) (by decide)).1 eqR_rf⟩
theorem t_rounds {σ : jx_S} (h : IV2 σ σ) : ∃ σ2, p_r_rounds σ = some (v_cl_rounds σ, σ2) ∧ IV2 σ2 σ2 := ⟨_, (call_rounds h).1, IV2_move (call_rounds h).2 (eqC_of (f_r_rounds σ σ jFr.rfl _ (call_rounds h).1) (by decide) (by decide)).1 eqR_rf⟩
