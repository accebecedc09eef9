def ms_r_sameNames : List Nat := []
def fs_r_sameNames : List (Nat × Nat) := [(106, 4), (106, 5)]
def fk_r_sameNames_4 (σ0 : jx_S) (t : ((Int32 × Int32 × jx_S) ⊕ (Int32 × jx_S))) : Prop := match t with
  | .inl s => jFr ms_r_sameNames fs_r_sameNames σ0 (s.2.2)
  | .inr t => fkI ms_r_sameNames fs_r_sameNames σ0 t
def fk_r_sameNames_17 (σ0 : jx_S) (t : ((Int32 × Int32 × Int32 × Int32 × jx_S) ⊕ ((Int32 × Int32 × jx_S) ⊕ (Int32 × jx_S)))) : Prop := match t with
  | .inl s => jFr ms_r_sameNames fs_r_sameNames σ0 (s.2.2.2.2)
  | .inr t => fk_r_sameNames_4 σ0 t
def fk_r_sameNames_91 (σ0 : jx_S) (t : ((Int32 × Int32 × Int32 × jx_S) ⊕ ((Int32 × Int32 × jx_S) ⊕ (Int32 × jx_S)))) : Prop := match t with
  | .inl s => jFr ms_r_sameNames fs_r_sameNames σ0 (s.2.2.2)
  | .inr t => fk_r_sameNames_4 σ0 t
def fk_r_sameNames_105 (σ0 : jx_S) (t : ((Int32 × Int32 × Int32 × Int32 × jx_S) ⊕ ((Int32 × Int32 × Int32 × jx_S) ⊕ ((Int32 × Int32 × jx_S) ⊕ (Int32 × jx_S))))) : Prop := match t with
  | .inl s => jFr ms_r_sameNames fs_r_sameNames σ0 (s.2.2.2.2)
  | .inr t => fk_r_sameNames_91 σ0 t
theorem f_r_sameNames_182 (σ0 : jx_S) (x2 : Int32) (x4 : Int32) (x5 : Int32) (y0 : Int32) (σ : jx_S) (h0 : jFr ms_r_sameNames fs_r_sameNames σ0 σ) (t : ((Int32 × Int32 × Int32 × Int32 × jx_S) ⊕ ((Int32 × Int32 × Int32 × jx_S) ⊕ ((Int32 × Int32 × jx_S) ⊕ (Int32 × jx_S))))) (h : p_r_sameNames_182 x2 x4 x5 y0 σ = some t) : fk_r_sameNames_105 σ0 t := by
  unfold p_r_sameNames_182 at h
  have h9 := Option.some.inj h
  subst h9
  exact h0
theorem f_r_sameNames_181 (σ0 : jx_S) (x1 : Int32) (x2 : Int32) (x4 : Int32) (x5 : Int32) (σ : jx_S) (h0 : jFr ms_r_sameNames fs_r_sameNames σ0 σ) (t : ((Int32 × Int32 × Int32 × Int32 × jx_S) ⊕ ((Int32 × Int32 × Int32 × jx_S) ⊕ ((Int32 × Int32 × jx_S) ⊕ (Int32 × jx_S))))) (h : p_r_sameNames_181 x1 x2 x4 x5 σ = some t) : fk_r_sameNames_105 σ0 t := by
  unfold p_r_sameNames_181 at h
  exact f_r_sameNames_182 σ0 x2 x4 x5 x1 σ h0 _ h
theorem f_r_sameNames_176 (σ0 : jx_S) (x2 : Int32) (x4 : Int32) (x5 : Int32) (x6 : Int32) (σ : jx_S) (h0 : jFr ms_r_sameNames fs_r_sameNames σ0 σ) (t : ((Int32 × Int32 × Int32 × Int32 × jx_S) ⊕ ((Int32 × Int32 × Int32 × jx_S) ⊕ ((Int32 × Int32 × jx_S) ⊕ (Int32 × jx_S))))) (h : p_r_sameNames_176 x2 x4 x5 x6 σ = some t) : fk_r_sameNames_105 σ0 t := by
  unfold p_r_sameNames_176 at h
  exact f_r_sameNames_182 σ0 x2 x4 x5 x6 σ h0 _ h
theorem f_r_sameNames_105_s (σ0 : jx_S) (x1 : Int32) (x2 : Int32) (x4 : Int32) (x5 : Int32) (σ : jx_S) (h0 : jFr ms_r_sameNames fs_r_sameNames σ0 σ) (t : ((Int32 × Int32 × Int32 × Int32 × jx_S) ⊕ ((Int32 × Int32 × Int32 × jx_S) ⊕ ((Int32 × Int32 × jx_S) ⊕ (Int32 × jx_S))))) (h : p_r_sameNames_105_s x1 x2 x4 x5 σ = some t) : fk_r_sameNames_105 σ0 t := by
  unfold p_r_sameNames_105_s at h
  rcases Classical.em (x4 ≤ x5) with hc | hc
  · rw [if_pos hc] at h
    obtain ⟨t9_4, h9_4, h8_4⟩ := Option.map_eq_some_iff.mp h
    clear h
    subst h8_4
    have h := h9_4
    clear h9_4
    have h9 := Option.some.inj h
    subst h9
    exact h0
  · rw [if_neg hc] at h
    obtain ⟨hi, h⟩ := jx_ite0_inv h
    obtain ⟨hi, h⟩ := jx_ite0_inv h
    obtain ⟨hi, h⟩ := jx_ite0_inv h
    obtain ⟨hi, h⟩ := jx_ite0_inv h
    obtain ⟨q5, hq, h⟩ := Option.bind_eq_some_iff.mp h
    have f_q5 := jFr.step h0 (f_r_isSame σ ((σ.1 134) ((((8 : Int32) * x2) + x4)).toNatClampNeg) ((σ.1 134) ((((8 : Int32) * x2) + x5)).toNatClampNeg) σ jFr.rfl q5 hq) (by decide +kernel) (by decide +kernel)
    rcases Classical.em (q5.1 = 0) with hc | hc
    · rw [if_pos hc] at h
      exact f_r_sameNames_181 σ0 x1 x2 x4 x5 q5.2 f_q5 _ h
    · rw [if_neg hc] at h
      rcases Classical.em (x1 < 0) with hc | hc
      · rw [if_pos hc] at h
        exact f_r_sameNames_176 σ0 x2 x4 x5 ((σ.1 109) (((σ.1 134) ((((8 : Int32) * x2) + x4)).toNatClampNeg)).toNatClampNeg) q5.2 f_q5 _ h
      · rw [if_neg hc] at h
        rcases Classical.em (x1 ≤ ((σ.1 109) (((σ.1 134) ((((8 : Int32) * x2) + x4)).toNatClampNeg)).toNatClampNeg)) with hc | hc
        · rw [if_pos hc] at h
          exact f_r_sameNames_181 σ0 x1 x2 x4 x5 q5.2 f_q5 _ h
        · rw [if_neg hc] at h
          exact f_r_sameNames_176 σ0 x2 x4 x5 ((σ.1 109) (((σ.1 134) ((((8 : Int32) * x2) + x4)).toNatClampNeg)).toNatClampNeg) q5.2 f_q5 _ h
theorem f_r_sameNames_105 (σ0 : jx_S) (x1 : Int32) (x2 : Int32) (x4 : Int32) (x5 : Int32) (σ : jx_S) (h0 : jFr ms_r_sameNames fs_r_sameNames σ0 σ) (t : ((Int32 × Int32 × Int32 × jx_S) ⊕ ((Int32 × Int32 × jx_S) ⊕ (Int32 × jx_S)))) (h : p_r_sameNames_105 x1 x2 x4 x5 σ = some t) : fk_r_sameNames_91 σ0 t := by
  refine jx_loop_ok (E := fun s t => jFr ms_r_sameNames fs_r_sameNames σ0 (s.2.2.2.2) → fk_r_sameNames_91 σ0 t) (fun s t hs => ?_) _ _ _ h h0
  cases t with
  | inl s1 => exact fun b hb hf => hb (f_r_sameNames_105_s σ0 (s.1) (s.2.1) (s.2.2.1) (s.2.2.2.1) (s.2.2.2.2) hf _ hs)
  | inr b => exact fun hf => f_r_sameNames_105_s σ0 (s.1) (s.2.1) (s.2.2.1) (s.2.2.2.1) (s.2.2.2.2) hf _ hs
theorem f_r_sameNames_91_s (σ0 : jx_S) (x1 : Int32) (x2 : Int32) (x4 : Int32) (σ : jx_S) (h0 : jFr ms_r_sameNames fs_r_sameNames σ0 σ) (t : ((Int32 × Int32 × Int32 × jx_S) ⊕ ((Int32 × Int32 × jx_S) ⊕ (Int32 × jx_S)))) (h : p_r_sameNames_91_s x1 x2 x4 σ = some t) : fk_r_sameNames_91 σ0 t := by
  unfold p_r_sameNames_91_s at h
  obtain ⟨hi, h⟩ := jx_ite0_inv h
  rcases Classical.em (((σ.1 127) (x2).toNatClampNeg) ≤ x4) with hc | hc
  · rw [if_pos hc] at h
    obtain ⟨t9_3, h9_3, h8_3⟩ := Option.map_eq_some_iff.mp h
    clear h
    subst h8_3
    have h := h9_3
    clear h9_3
    have h9 := Option.some.inj h
    subst h9
    exact h0
  · rw [if_neg hc] at h
    exact f_r_sameNames_105 σ0 x1 x2 x4 (0 : Int32) σ h0 _ h
theorem f_r_sameNames_91 (σ0 : jx_S) (x1 : Int32) (x2 : Int32) (x4 : Int32) (σ : jx_S) (h0 : jFr ms_r_sameNames fs_r_sameNames σ0 σ) (t : ((Int32 × Int32 × jx_S) ⊕ (Int32 × jx_S))) (h : p_r_sameNames_91 x1 x2 x4 σ = some t) : fk_r_sameNames_4 σ0 t := by
  refine jx_loop_ok (E := fun s t => jFr ms_r_sameNames fs_r_sameNames σ0 (s.2.2.2) → fk_r_sameNames_4 σ0 t) (fun s t hs => ?_) _ _ _ h h0
  cases t with
  | inl s1 => exact fun b hb hf => hb (f_r_sameNames_91_s σ0 (s.1) (s.2.1) (s.2.2.1) (s.2.2.2) hf _ hs)
  | inr b => exact fun hf => f_r_sameNames_91_s σ0 (s.1) (s.2.1) (s.2.2.1) (s.2.2.2) hf _ hs
theorem f_r_sameNames_87 (σ0 : jx_S) (x2 : Int32) (y0 : Int32) (σ : jx_S) (h0 : jFr ms_r_sameNames fs_r_sameNames σ0 σ) (t : ((Int32 × Int32 × jx_S) ⊕ (Int32 × jx_S))) (h : p_r_sameNames_87 x2 y0 σ = some t) : fk_r_sameNames_4 σ0 t := by
  unfold p_r_sameNames_87 at h
  exact f_r_sameNames_91 σ0 y0 x2 (0 : Int32) σ h0 _ h
theorem f_r_sameNames_86 (σ0 : jx_S) (x1 : Int32) (x2 : Int32) (σ : jx_S) (h0 : jFr ms_r_sameNames fs_r_sameNames σ0 σ) (t : ((Int32 × Int32 × jx_S) ⊕ (Int32 × jx_S))) (h : p_r_sameNames_86 x1 x2 σ = some t) : fk_r_sameNames_4 σ0 t := by
  unfold p_r_sameNames_86 at h
  exact f_r_sameNames_87 σ0 x2 x1 σ h0 _ h
theorem f_r_sameNames_72 (σ0 : jx_S) (x2 : Int32) (σ : jx_S) (h0 : jFr ms_r_sameNames fs_r_sameNames σ0 σ) (t : ((Int32 × Int32 × jx_S) ⊕ (Int32 × jx_S))) (h : p_r_sameNames_72 x2 σ = some t) : fk_r_sameNames_4 σ0 t := by
  unfold p_r_sameNames_72 at h
  obtain ⟨hi, h⟩ := jx_ite0_inv h
  obtain ⟨hi, h⟩ := jx_ite0_inv h
  exact f_r_sameNames_87 σ0 x2 ((σ.1 109) (((σ.1 126) (x2).toNatClampNeg)).toNatClampNeg) σ h0 _ h
theorem f_r_sameNames_17_s (σ0 : jx_S) (x1 : Int32) (x2 : Int32) (x3 : Int32) (x4 : Int32) (σ : jx_S) (h0 : jFr ms_r_sameNames fs_r_sameNames σ0 σ) (t : ((Int32 × Int32 × Int32 × Int32 × jx_S) ⊕ ((Int32 × Int32 × jx_S) ⊕ (Int32 × jx_S)))) (h : p_r_sameNames_17_s x1 x2 x3 x4 σ = some t) : fk_r_sameNames_17 σ0 t := by
  unfold p_r_sameNames_17_s at h
  rcases Classical.em (x2 ≤ x4) with hc | hc
  · rw [if_pos hc] at h
    obtain ⟨t9_6, h9_6, h8_6⟩ := Option.map_eq_some_iff.mp h
    clear h
    subst h8_6
    have h := h9_6
    clear h9_6
    rcases Classical.em (x3 = 0) with hc | hc
    · rw [if_pos hc] at h
      exact f_r_sameNames_86 σ0 x1 x2 σ h0 _ h
    · rw [if_neg hc] at h
      rcases Classical.em (x1 < 0) with hc | hc
      · rw [if_pos hc] at h
        exact f_r_sameNames_72 σ0 x2 σ h0 _ h
      · rw [if_neg hc] at h
        obtain ⟨hi, h⟩ := jx_ite0_inv h
        obtain ⟨hi, h⟩ := jx_ite0_inv h
        rcases Classical.em (x1 ≤ ((σ.1 109) (((σ.1 126) (x2).toNatClampNeg)).toNatClampNeg)) with hc | hc
        · rw [if_pos hc] at h
          exact f_r_sameNames_86 σ0 x1 x2 σ h0 _ h
        · rw [if_neg hc] at h
          exact f_r_sameNames_72 σ0 x2 σ h0 _ h
  · rw [if_neg hc] at h
    obtain ⟨hi, h⟩ := jx_ite0_inv h
    obtain ⟨hi, h⟩ := jx_ite0_inv h
    obtain ⟨q7, hq, h⟩ := Option.bind_eq_some_iff.mp h
    have f_q7 := jFr.step h0 (f_r_isSame σ ((σ.1 126) (x2).toNatClampNeg) ((σ.1 126) (x4).toNatClampNeg) σ jFr.rfl q7 hq) (by decide +kernel) (by decide +kernel)
    have h9 := Option.some.inj h
    subst h9
    exact f_q7
theorem f_r_sameNames_17 (σ0 : jx_S) (x1 : Int32) (x2 : Int32) (x3 : Int32) (x4 : Int32) (σ : jx_S) (h0 : jFr ms_r_sameNames fs_r_sameNames σ0 σ) (t : ((Int32 × Int32 × jx_S) ⊕ (Int32 × jx_S))) (h : p_r_sameNames_17 x1 x2 x3 x4 σ = some t) : fk_r_sameNames_4 σ0 t := by
  refine jx_loop_ok (E := fun s t => jFr ms_r_sameNames fs_r_sameNames σ0 (s.2.2.2.2) → fk_r_sameNames_4 σ0 t) (fun s t hs => ?_) _ _ _ h h0
  cases t with
  | inl s1 => exact fun b hb hf => hb (f_r_sameNames_17_s σ0 (s.1) (s.2.1) (s.2.2.1) (s.2.2.2.1) (s.2.2.2.2) hf _ hs)
  | inr b => exact fun hf => f_r_sameNames_17_s σ0 (s.1) (s.2.1) (s.2.2.1) (s.2.2.2.1) (s.2.2.2.2) hf _ hs
theorem f_r_sameNames_4_s (σ0 : jx_S) (x1 : Int32) (x2 : Int32) (σ : jx_S) (h0 : jFr ms_r_sameNames fs_r_sameNames σ0 σ) (t : ((Int32 × Int32 × jx_S) ⊕ (Int32 × jx_S))) (h : p_r_sameNames_4_s x1 x2 σ = some t) : fk_r_sameNames_4 σ0 t := by
  unfold p_r_sameNames_4_s at h
  rcases Classical.em ((σ.1 106 38) ≤ x2) with hc | hc
  · rw [if_pos hc] at h
    obtain ⟨t9_2, h9_2, h8_2⟩ := Option.map_eq_some_iff.mp h
    clear h
    subst h8_2
    have h := h9_2
    clear h9_2
    rcases Classical.em (x1 < 0) with hc | hc
    · rw [if_pos hc] at h
      have h9 := Option.some.inj h
      subst h9
      exact h0
    · rw [if_neg hc] at h
      obtain ⟨q1, hq, h⟩ := Option.bind_eq_some_iff.mp h
      have f_q1 := jFr.step h0 (f_r_fails σ (5 : Int32) x1 σ jFr.rfl q1 hq) (by decide +kernel) (by decide +kernel)
      rcases Classical.em (q1.1 = 0) with hc | hc
      · rw [if_pos hc] at h
        have h9 := Option.some.inj h
        subst h9
        exact f_q1
      · rw [if_neg hc] at h
        have h9 := Option.some.inj h
        subst h9
        exact f_q1
  · rw [if_neg hc] at h
    exact f_r_sameNames_17 σ0 x1 x2 (0 : Int32) (0 : Int32) σ h0 _ h
theorem f_r_sameNames_4 (σ0 : jx_S) (x1 : Int32) (x2 : Int32) (σ : jx_S) (h0 : jFr ms_r_sameNames fs_r_sameNames σ0 σ) (t : (Int32 × jx_S)) (h : p_r_sameNames_4 x1 x2 σ = some t) : fkI ms_r_sameNames fs_r_sameNames σ0 t := by
  refine jx_loop_ok (E := fun s t => jFr ms_r_sameNames fs_r_sameNames σ0 (s.2.2) → fkI ms_r_sameNames fs_r_sameNames σ0 t) (fun s t hs => ?_) _ _ _ h h0
  cases t with
  | inl s1 => exact fun b hb hf => hb (f_r_sameNames_4_s σ0 (s.1) (s.2.1) (s.2.2) hf _ hs)
  | inr b => exact fun hf => f_r_sameNames_4_s σ0 (s.1) (s.2.1) (s.2.2) hf _ hs
theorem f_r_sameNames (σ0 : jx_S) (σ : jx_S) (h0 : jFr ms_r_sameNames fs_r_sameNames σ0 σ) (t : (Int32 × jx_S)) (h : p_r_sameNames σ = some t) : fkI ms_r_sameNames fs_r_sameNames σ0 t := by
  unfold p_r_sameNames at h
  exact f_r_sameNames_4 σ0 (-1 : Int32) (0 : Int32) σ h0 _ h
def ms_r_functionNamed : List Nat := []
def fs_r_functionNamed : List (Nat × Nat) := []
def fk_r_functionNamed_2 (σ0 : jx_S) (t : ((Int32 × Int32 × jx_S) ⊕ (Int32 × jx_S))) : Prop := match t with
  | .inl s => jFr ms_r_functionNamed fs_r_functionNamed σ0 (s.2.2)
  | .inr t => fkI ms_r_functionNamed fs_r_functionNamed σ0 t
theorem f_r_functionNamed_2_s (σ0 : jx_S) (x1 : Int32) (x2 : Int32) (σ : jx_S) (h0 : jFr ms_r_functionNamed fs_r_functionNamed σ0 σ) (t : ((Int32 × Int32 × jx_S) ⊕ (Int32 × jx_S))) (h : p_r_functionNamed_2_s x1 x2 σ = some t) : fk_r_functionNamed_2 σ0 t := by
  unfold p_r_functionNamed_2_s at h
  rcases Classical.em ((σ.1 106 38) ≤ x2) with hc | hc
  · rw [if_pos hc] at h
    obtain ⟨t9_1, h9_1, h8_1⟩ := Option.map_eq_some_iff.mp h
    clear h
    subst h8_1
    have h := h9_1
    clear h9_1
    have h9 := Option.some.inj h
    subst h9
    exact h0
  · rw [if_neg hc] at h
    obtain ⟨hi, h⟩ := jx_ite0_inv h
    obtain ⟨q2, hq, h⟩ := Option.bind_eq_some_iff.mp h
    have f_q2 := jFr.step h0 (f_r_isSame σ ((σ.1 126) (x2).toNatClampNeg) x1 σ jFr.rfl q2 hq) (by decide +kernel) (by decide +kernel)
    rcases Classical.em (q2.1 = 0) with hc | hc
    · rw [if_pos hc] at h
      have h9 := Option.some.inj h
      subst h9
      exact f_q2
    · rw [if_neg hc] at h
      obtain ⟨t9_3, h9_3, h8_3⟩ := Option.map_eq_some_iff.mp h
      clear h
      subst h8_3
      have h := h9_3
      clear h9_3
      have h9 := Option.some.inj h
      subst h9
      exact f_q2
theorem f_r_functionNamed_2 (σ0 : jx_S) (x1 : Int32) (x2 : Int32) (σ : jx_S) (h0 : jFr ms_r_functionNamed fs_r_functionNamed σ0 σ) (t : (Int32 × jx_S)) (h : p_r_functionNamed_2 x1 x2 σ = some t) : fkI ms_r_functionNamed fs_r_functionNamed σ0 t := by
  refine jx_loop_ok (E := fun s t => jFr ms_r_functionNamed fs_r_functionNamed σ0 (s.2.2) → fkI ms_r_functionNamed fs_r_functionNamed σ0 t) (fun s t hs => ?_) _ _ _ h h0
  cases t with
  | inl s1 => exact fun b hb hf => hb (f_r_functionNamed_2_s σ0 (s.1) (s.2.1) (s.2.2) hf _ hs)
  | inr b => exact fun hf => f_r_functionNamed_2_s σ0 (s.1) (s.2.1) (s.2.2) hf _ hs
theorem f_r_functionNamed (σ0 : jx_S) (x1 : Int32) (σ : jx_S) (h0 : jFr ms_r_functionNamed fs_r_functionNamed σ0 σ) (t : (Int32 × jx_S)) (h : p_r_functionNamed x1 σ = some t) : fkI ms_r_functionNamed fs_r_functionNamed σ0 t := by
  unfold p_r_functionNamed at h
  exact f_r_functionNamed_2 σ0 x1 (0 : Int32) σ h0 _ h
def ms_r_want : List Nat := [144, 145]
def fs_r_want : List (Nat × Nat) := [(106, 55)]
theorem f_r_want (σ0 : jx_S) (x1 : Int32) (x2 : Int32) (σ : jx_S) (h0 : jFr ms_r_want fs_r_want σ0 σ) (t : jx_S) (h : p_r_want x1 x2 σ = some t) : fkV ms_r_want fs_r_want σ0 t := by
  unfold p_r_want at h
  obtain ⟨hi, h⟩ := jx_ite0_inv h
  obtain ⟨hi, h⟩ := jx_ite0_inv h
  have h9 := Option.some.inj h
  subst h9
  exact (jFr.i (jFr.ia (jFr.ia h0 (by decide)) (by decide)) (by decide))
def ms_r_takes : List Nat := []
def fs_r_takes : List (Nat × Nat) := []
theorem f_r_takes (σ0 : jx_S) (x1 : Int32) (σ : jx_S) (h0 : jFr ms_r_takes fs_r_takes σ0 σ) (t : (Int32 × jx_S)) (h : p_r_takes x1 σ = some t) : fkI ms_r_takes fs_r_takes σ0 t := by
  unfold p_r_takes at h
  obtain ⟨hi, h⟩ := jx_ite0_inv h
  rcases Classical.em (((σ.1 117) (x1).toNatClampNeg) < 0) with hc | hc
  · rw [if_pos hc] at h
    obtain ⟨hi, h⟩ := jx_ite0_inv h
    obtain ⟨hi, h⟩ := jx_ite0_inv h
    have h9 := Option.some.inj h
    subst h9
    exact h0
  · rw [if_neg hc] at h
    obtain ⟨hi, h⟩ := jx_ite0_inv h
    obtain ⟨hi, h⟩ := jx_ite0_inv h
    have h9 := Option.some.inj h
    subst h9
    exact h0
def ms_r_typeOf : List Nat := []
def fs_r_typeOf : List (Nat × Nat) := []
theorem f_r_typeOf (σ0 : jx_S) (x1 : Int32) (x2 : Int32) (σ : jx_S) (h0 : jFr ms_r_typeOf fs_r_typeOf σ0 σ) (t : (Int32 × jx_S)) (h : p_r_typeOf x1 x2 σ = some t) : fkI ms_r_typeOf fs_r_typeOf σ0 t := by
  unfold p_r_typeOf at h
  obtain ⟨hi, h⟩ := jx_ite0_inv h
  rcases Classical.em (((σ.1 117) (x1).toNatClampNeg) < 0) with hc | hc
  · rw [if_pos hc] at h
    obtain ⟨hi, h⟩ := jx_ite0_inv h
    obtain ⟨hi, h⟩ := jx_ite0_inv h
    rcases Classical.em (((σ.1 127) (((σ.1 123) (x1).toNatClampNeg)).toNatClampNeg) ≤ x2) with hc | hc
    · rw [if_pos hc] at h
      obtain ⟨hi, h⟩ := jx_ite0_inv h
      have h9 := Option.some.inj h
      subst h9
      exact h0
    · rw [if_neg hc] at h
      obtain ⟨hi, h⟩ := jx_ite0_inv h
      have h9 := Option.some.inj h
      subst h9
      exact h0
  · rw [if_neg hc] at h
    obtain ⟨hi, h⟩ := jx_ite0_inv h
    obtain ⟨hi, h⟩ := jx_ite0_inv h
    have h9 := Option.some.inj h
    subst h9
    exact h0
def ms_r_left : List Nat := []
def fs_r_left : List (Nat × Nat) := []
theorem f_r_left_69 (σ0 : jx_S) (x2 : Int32) (x3 : Int32) (x4 : Int32) (x5 : Int32) (y0 : Int32) (σ : jx_S) (h0 : jFr ms_r_left fs_r_left σ0 σ) (t : (Int32 × jx_S)) (h : p_r_left_69 x2 x3 x4 x5 y0 σ = some t) : fkI ms_r_left fs_r_left σ0 t := by
  unfold p_r_left_69 at h
  rcases Classical.em ((1 : Int32) < x5) with hc | hc
  · rw [if_pos hc] at h
    have h9 := Option.some.inj h
    subst h9
    exact h0
  · rw [if_neg hc] at h
    rcases Classical.em (y0 ≤ (1 : Int32)) with hc | hc
    · rw [if_pos hc] at h
      rcases Classical.em (¬ (x2 - x3) = (1 : Int32)) with hc | hc
      · rw [if_pos hc] at h
        have h9 := Option.some.inj h
        subst h9
        exact h0
      · rw [if_neg hc] at h
        have h9 := Option.some.inj h
        subst h9
        exact h0
    · rw [if_neg hc] at h
      have h9 := Option.some.inj h
      subst h9
      exact h0
theorem f_r_left_48 (σ0 : jx_S) (x1 : Int32) (x2 : Int32) (x3 : Int32) (x4 : Int32) (y0 : Int32) (σ : jx_S) (h0 : jFr ms_r_left fs_r_left σ0 σ) (t : (Int32 × jx_S)) (h : p_r_left_48 x1 x2 x3 x4 y0 σ = some t) : fkI ms_r_left fs_r_left σ0 t := by
  unfold p_r_left_48 at h
  rcases Classical.em (¬ (x2 - x3) = (2 : Int32)) with hc | hc
  · rw [if_pos hc] at h
    exact f_r_left_69 σ0 x2 x3 x4 y0 (0 : Int32) σ h0 _ h
  · rw [if_neg hc] at h
    obtain ⟨q3, hq, h⟩ := Option.bind_eq_some_iff.mp h
    have f_q3 := jFr.step h0 (f_r_typeOf σ x1 (x3 + (1 : Int32)) σ jFr.rfl q3 hq) (by decide +kernel) (by decide +kernel)
    exact f_r_left_69 σ0 x2 x3 x4 y0 q3.1 q3.2 f_q3 _ h
theorem f_r_left (σ0 : jx_S) (x1 : Int32) (σ : jx_S) (h0 : jFr ms_r_left fs_r_left σ0 σ) (t : (Int32 × jx_S)) (h : p_r_left x1 σ = some t) : fkI ms_r_left fs_r_left σ0 t := by
  unfold p_r_left at h
  obtain ⟨q1, hq, h⟩ := Option.bind_eq_some_iff.mp h
  have f_q1 := jFr.step h0 (f_r_takes σ x1 σ jFr.rfl q1 hq) (by decide +kernel) (by decide +kernel)
  obtain ⟨hi, h⟩ := jx_ite0_inv h
  obtain ⟨q2, hq, h⟩ := Option.bind_eq_some_iff.mp h
  have f_q2 := jFr.step f_q1 (f_r_typeOf q1.2 x1 q1.1 q1.2 jFr.rfl q2 hq) (by decide +kernel) (by decide +kernel)
  rcases Classical.em (¬ (q1.1 - ((q1.2.1 119) (x1).toNatClampNeg)) = 0) with hc | hc
  · rw [if_pos hc] at h
    rcases Classical.em ((3 : Int32) ≤ (q1.1 - ((q1.2.1 119) (x1).toNatClampNeg))) with hc | hc
    · rw [if_pos hc] at h
      exact f_r_left_48 σ0 x1 q1.1 ((q1.2.1 119) (x1).toNatClampNeg) q2.1 (9 : Int32) q2.2 f_q2 _ h
    · rw [if_neg hc] at h
      obtain ⟨q4, hq, h⟩ := Option.bind_eq_some_iff.mp h
      have f_q4 := jFr.step f_q2 (f_r_typeOf q2.2 x1 ((q1.2.1 119) (x1).toNatClampNeg) q2.2 jFr.rfl q4 hq) (by decide +kernel) (by decide +kernel)
      exact f_r_left_48 σ0 x1 q1.1 ((q1.2.1 119) (x1).toNatClampNeg) q2.1 q4.1 q4.2 f_q4 _ h
  · rw [if_neg hc] at h
    have h9 := Option.some.inj h
    subst h9
    exact f_q2
def ms_r_checkName : List Nat := [123, 144, 145]
def fs_r_checkName : List (Nat × Nat) := [(106, 4), (106, 5), (106, 55)]
theorem f_r_checkName_77 (σ0 : jx_S) (x3 : Int32) (σ : jx_S) (h0 : jFr ms_r_checkName fs_r_checkName σ0 σ) (t : (Int32 × jx_S)) (h : p_r_checkName_77 x3 σ = some t) : fkI ms_r_checkName fs_r_checkName σ0 t := by
  unfold p_r_checkName_77 at h
  obtain ⟨q2, hq, h⟩ := Option.bind_eq_some_iff.mp h
  have f_q2 := jFr.step h0 (f_r_fails σ (7 : Int32) x3 σ jFr.rfl q2 hq) (by decide +kernel) (by decide +kernel)
  obtain ⟨hb, h⟩ := jx_ite_inv h
  have h9 := Option.some.inj h
  subst h9
  exact f_q2
def fk_r_checkName_117 (σ0 : jx_S) (t : ((Int32 × Int32 × Int32 × Int32 × jx_S) ⊕ (Int32 × jx_S))) : Prop := match t with
  | .inl s => jFr ms_r_checkName fs_r_checkName σ0 (s.2.2.2.2)
  | .inr t => fkI ms_r_checkName fs_r_checkName σ0 t
theorem f_r_checkName_117_s (σ0 : jx_S) (x1 : Int32) (x4 : Int32) (x5 : Int32) (x6 : Int32) (σ : jx_S) (h0 : jFr ms_r_checkName fs_r_checkName σ0 σ) (t : ((Int32 × Int32 × Int32 × Int32 × jx_S) ⊕ (Int32 × jx_S))) (h : p_r_checkName_117_s x1 x4 x5 x6 σ = some t) : fk_r_checkName_117 σ0 t := by
  unfold p_r_checkName_117_s at h
  obtain ⟨hi, h⟩ := jx_ite0_inv h
  rcases Classical.em (((σ.1 119) (x1).toNatClampNeg) ≤ x6) with hc | hc
  · rw [if_pos hc] at h
    obtain ⟨t9_4, h9_4, h8_4⟩ := Option.map_eq_some_iff.mp h
    clear h
    subst h8_4
    have h := h9_4
    clear h9_4
    have h9 := Option.some.inj h
    subst h9
    exact h0
  · rw [if_neg hc] at h
    obtain ⟨hi, h⟩ := jx_ite0_inv h
    obtain ⟨hi, h⟩ := jx_ite0_inv h
    obtain ⟨hi, h⟩ := jx_ite0_inv h
    obtain ⟨q5, hq, h⟩ := Option.bind_eq_some_iff.mp h
    have f_q5 := jFr.step (jFr.ia h0 (by decide)) (f_r_typeOf (jx_i σ 144 ((((x4 + ((σ.1 119) (x1).toNatClampNeg)) - (1 : Int32)) - x6)).toNatClampNeg x5) x1 x6 (jx_i σ 144 ((((x4 + ((σ.1 119) (x1).toNatClampNeg)) - (1 : Int32)) - x6)).toNatClampNeg x5) jFr.rfl q5 hq) (by decide +kernel) (by decide +kernel)
    obtain ⟨hi, h⟩ := jx_ite0_inv h
    obtain ⟨hi, h⟩ := jx_ite0_inv h
    have h9 := Option.some.inj h
    subst h9
    exact (jFr.ia f_q5 (by decide))
theorem f_r_checkName_117 (σ0 : jx_S) (x1 : Int32) (x4 : Int32) (x5 : Int32) (x6 : Int32) (σ : jx_S) (h0 : jFr ms_r_checkName fs_r_checkName σ0 σ) (t : (Int32 × jx_S)) (h : p_r_checkName_117 x1 x4 x5 x6 σ = some t) : fkI ms_r_checkName fs_r_checkName σ0 t := by
  refine jx_loop_ok (E := fun s t => jFr ms_r_checkName fs_r_checkName σ0 (s.2.2.2.2) → fkI ms_r_checkName fs_r_checkName σ0 t) (fun s t hs => ?_) _ _ _ h h0
  cases t with
  | inl s1 => exact fun b hb hf => hb (f_r_checkName_117_s σ0 (s.1) (s.2.1) (s.2.2.1) (s.2.2.2.1) (s.2.2.2.2) hf _ hs)
  | inr b => exact fun hf => f_r_checkName_117_s σ0 (s.1) (s.2.1) (s.2.2.1) (s.2.2.2.1) (s.2.2.2.2) hf _ hs
theorem f_r_checkName_54 (σ0 : jx_S) (x1 : Int32) (x2 : Int32) (x3 : Int32) (σ : jx_S) (h0 : jFr ms_r_checkName fs_r_checkName σ0 σ) (t : (Int32 × jx_S)) (h : p_r_checkName_54 x1 x2 x3 σ = some t) : fkI ms_r_checkName fs_r_checkName σ0 t := by
  unfold p_r_checkName_54 at h
  obtain ⟨hi, h⟩ := jx_ite0_inv h
  obtain ⟨q1, hq, h⟩ := Option.bind_eq_some_iff.mp h
  have f_q1 := jFr.step h0 (f_r_takes σ x1 σ jFr.rfl q1 hq) (by decide +kernel) (by decide +kernel)
  rcases Classical.em (q1.1 < ((σ.1 119) (x1).toNatClampNeg)) with hc | hc
  · rw [if_pos hc] at h
    exact f_r_checkName_77 σ0 x3 q1.2 f_q1 _ h
  · rw [if_neg hc] at h
    obtain ⟨q3, hq, h⟩ := Option.bind_eq_some_iff.mp h
    have f_q3 := jFr.step f_q1 (f_r_left q1.2 x1 q1.2 jFr.rfl q3 hq) (by decide +kernel) (by decide +kernel)
    rcases Classical.em (q3.1 = x2) with hc | hc
    · rw [if_pos hc] at h
      obtain ⟨hi, h⟩ := jx_ite0_inv h
      obtain ⟨hi, h⟩ := jx_ite0_inv h
      exact f_r_checkName_117 σ0 x1 (q3.2.1 106 55) ((q3.2.1 114) (x1).toNatClampNeg) (0 : Int32) (jx_i q3.2 106 55 ((q3.2.1 106 55) + ((q3.2.1 119) (x1).toNatClampNeg))) (jFr.i f_q3 (by decide)) _ h
    · rw [if_neg hc] at h
      exact f_r_checkName_77 σ0 x3 q3.2 f_q3 _ h
theorem f_r_checkName (σ0 : jx_S) (x1 : Int32) (x2 : Int32) (σ : jx_S) (h0 : jFr ms_r_checkName fs_r_checkName σ0 σ) (t : (Int32 × jx_S)) (h : p_r_checkName x1 x2 σ = some t) : fkI ms_r_checkName fs_r_checkName σ0 t := by
  unfold p_r_checkName at h
  obtain ⟨hi, h⟩ := jx_ite0_inv h
  obtain ⟨hi, h⟩ := jx_ite0_inv h
  obtain ⟨hi, h⟩ := jx_ite0_inv h
  rcases Classical.em (0 ≤ ((σ.1 117) (x1).toNatClampNeg)) with hc | hc
  · rw [if_pos hc] at h
    exact f_r_checkName_54 σ0 x1 x2 ((σ.1 109) (((σ.1 113) (x1).toNatClampNeg)).toNatClampNeg) σ h0 _ h
  · rw [if_neg hc] at h
    obtain ⟨hi, h⟩ := jx_ite0_inv h
    obtain ⟨q6, hq, h⟩ := Option.bind_eq_some_iff.mp h
    have f_q6 := jFr.step h0 (f_r_functionNamed σ ((σ.1 113) (x1).toNatClampNeg) σ jFr.rfl q6 hq) (by decide +kernel) (by decide +kernel)
    obtain ⟨hi, h⟩ := jx_ite0_inv h
    obtain ⟨hi, h⟩ := jx_ite0_inv h
    rcases Classical.em (0 ≤ (((jx_i q6.2 123 (x1).toNatClampNeg q6.1).1 123) (x1).toNatClampNeg)) with hc | hc
    · rw [if_pos hc] at h
      exact f_r_checkName_54 σ0 x1 x2 ((σ.1 109) (((σ.1 113) (x1).toNatClampNeg)).toNatClampNeg) (jx_i q6.2 123 (x1).toNatClampNeg q6.1) (jFr.ia f_q6 (by decide)) _ h
    · rw [if_neg hc] at h
      obtain ⟨q7, hq, h⟩ := Option.bind_eq_some_iff.mp h
      have f_q7 := jFr.step (jFr.ia f_q6 (by decide)) (f_r_fails (jx_i q6.2 123 (x1).toNatClampNeg q6.1) (6 : Int32) ((σ.1 109) (((σ.1 113) (x1).toNatClampNeg)).toNatClampNeg) (jx_i q6.2 123 (x1).toNatClampNeg q6.1) jFr.rfl q7 hq) (by decide +kernel) (by decide +kernel)
      obtain ⟨hb, h⟩ := jx_ite_inv h
      have h9 := Option.some.inj h
      subst h9
      exact f_q7
def ms_r_check : List Nat := [123, 124, 144, 145]
def fs_r_check : List (Nat × Nat) := [(106, 4), (106, 5), (106, 55)]
theorem f_r_check_380 (σ0 : jx_S) (y0 : Int32) (y1 : Int32) (σ : jx_S) (h0 : jFr ms_r_check fs_r_check σ0 σ) (t : (Int32 × jx_S)) (h : p_r_check_380 y0 y1 σ = some t) : fkI ms_r_check fs_r_check σ0 t := by
  unfold p_r_check_380 at h
  obtain ⟨q5, hq, h⟩ := Option.bind_eq_some_iff.mp h
  have f_q5 := jFr.step h0 (f_r_want σ y1 y0 σ jFr.rfl q5 hq) (by decide +kernel) (by decide +kernel)
  have h9 := Option.some.inj h
  subst h9
  exact f_q5
theorem f_r_check_335 (σ0 : jx_S) (x1 : Int32) (x2 : Int32) (σ : jx_S) (h0 : jFr ms_r_check fs_r_check σ0 σ) (t : (Int32 × jx_S)) (h : p_r_check_335 x1 x2 σ = some t) : fkI ms_r_check fs_r_check σ0 t := by
  unfold p_r_check_335 at h
  obtain ⟨hi, h⟩ := jx_ite0_inv h
  obtain ⟨q3, hq, h⟩ := Option.bind_eq_some_iff.mp h
  have f_q3 := jFr.step h0 (f_r_want σ ((σ.1 116) (x1).toNatClampNeg) x2 σ jFr.rfl q3 hq) (by decide +kernel) (by decide +kernel)
  obtain ⟨hi, h⟩ := jx_ite0_inv h
  obtain ⟨q4, hq, h⟩ := Option.bind_eq_some_iff.mp h
  have f_q4 := jFr.step f_q3 (f_r_want q3 ((q3.1 115) (x1).toNatClampNeg) x2 q3 jFr.rfl q4 hq) (by decide +kernel) (by decide +kernel)
  obtain ⟨hi, h⟩ := jx_ite0_inv h
  obtain ⟨hi, h⟩ := jx_ite0_inv h
  rcases Classical.em (¬ ((q4.1 112) (x1).toNatClampNeg) = (7 : Int32)) with hc | hc
  · rw [if_pos hc] at h
    exact f_r_check_380 σ0 (1 : Int32) ((q4.1 114) (x1).toNatClampNeg) q4 f_q4 _ h
  · rw [if_neg hc] at h
    exact f_r_check_380 σ0 (0 : Int32) ((q4.1 114) (x1).toNatClampNeg) q4 f_q4 _ h
theorem f_r_check_414 (σ0 : jx_S) (x1 : Int32) (σ : jx_S) (h0 : jFr ms_r_check fs_r_check σ0 σ) (t : (Int32 × jx_S)) (h : p_r_check_414 x1 σ = some t) : fkI ms_r_check fs_r_check σ0 t := by
  unfold p_r_check_414 at h
  obtain ⟨hi, h⟩ := jx_ite0_inv h
  obtain ⟨q8, hq, h⟩ := Option.bind_eq_some_iff.mp h
  have f_q8 := jFr.step h0 (f_r_want σ ((σ.1 115) (x1).toNatClampNeg) (0 : Int32) σ jFr.rfl q8 hq) (by decide +kernel) (by decide +kernel)
  obtain ⟨hi, h⟩ := jx_ite0_inv h
  obtain ⟨q9, hq, h⟩ := Option.bind_eq_some_iff.mp h
  have f_q9 := jFr.step f_q8 (f_r_want q8 ((q8.1 114) (x1).toNatClampNeg) (0 : Int32) q8 jFr.rfl q9 hq) (by decide +kernel) (by decide +kernel)
  have h9 := Option.some.inj h
  subst h9
  exact f_q9
theorem f_r_check_201 (σ0 : jx_S) (x1 : Int32) (x2 : Int32) (x3 : Int32) (x4 : Int32) (σ : jx_S) (h0 : jFr ms_r_check fs_r_check σ0 σ) (t : (Int32 × jx_S)) (h : p_r_check_201 x1 x2 x3 x4 σ = some t) : fkI ms_r_check fs_r_check σ0 t := by
  unfold p_r_check_201 at h
  rcases Classical.em (¬ x4 = 0) with hc | hc
  · rw [if_pos hc] at h
    obtain ⟨hi, h⟩ := jx_ite0_inv h
    rcases Classical.em (((σ.1 112) (x1).toNatClampNeg) = 2) with hc0 | hc0
    · rw [if_pos hc0] at h
      have h9 := Option.some.inj h
      subst h9
      exact h0
    · rw [if_neg hc0] at h
      rcases Classical.em (((σ.1 112) (x1).toNatClampNeg) = 5) with hc1 | hc1
      · rw [if_pos hc1] at h
        obtain ⟨hi, h⟩ := jx_ite0_inv h
        obtain ⟨q1, hq, h⟩ := Option.bind_eq_some_iff.mp h
        have f_q1 := jFr.step h0 (f_r_want σ ((σ.1 115) (x1).toNatClampNeg) x2 σ jFr.rfl q1 hq) (by decide +kernel) (by decide +kernel)
        obtain ⟨hi, h⟩ := jx_ite0_inv h
        obtain ⟨hi, h⟩ := jx_ite0_inv h
        obtain ⟨hi, h⟩ := jx_ite0_inv h
        obtain ⟨q2, hq, h⟩ := Option.bind_eq_some_iff.mp h
        have f_q2 := jFr.step f_q1 (f_r_want q1 ((q1.1 114) (x1).toNatClampNeg) ((q1.1 137) ((((30 : Int32) * (q1.1 106 56)) + ((q1.1 117) (x1).toNatClampNeg))).toNatClampNeg) q1 jFr.rfl q2 hq) (by decide +kernel) (by decide +kernel)
        have h9 := Option.some.inj h
        subst h9
        exact f_q2
      · rw [if_neg hc1] at h
        rcases Classical.em (((σ.1 112) (x1).toNatClampNeg) = 7) with hc2 | hc2
        · rw [if_pos hc2] at h
          exact f_r_check_335 σ0 x1 x2 σ h0 _ h
        · rw [if_neg hc2] at h
          rcases Classical.em (((σ.1 112) (x1).toNatClampNeg) = 10) with hc3 | hc3
          · rw [if_pos hc3] at h
            exact f_r_check_335 σ0 x1 x2 σ h0 _ h
          · rw [if_neg hc3] at h
            rcases Classical.em (((σ.1 112) (x1).toNatClampNeg) = 13) with hc4 | hc4
            · rw [if_pos hc4] at h
              have h9 := Option.some.inj h
              subst h9
              exact h0
            · rw [if_neg hc4] at h
              rcases Classical.em (((σ.1 112) (x1).toNatClampNeg) = 14) with hc5 | hc5
              · rw [if_pos hc5] at h
                obtain ⟨hi, h⟩ := jx_ite0_inv h
                obtain ⟨q6, hq, h⟩ := Option.bind_eq_some_iff.mp h
                have f_q6 := jFr.step h0 (f_r_want σ ((σ.1 115) (x1).toNatClampNeg) (1 : Int32) σ jFr.rfl q6 hq) (by decide +kernel) (by decide +kernel)
                obtain ⟨hi, h⟩ := jx_ite0_inv h
                obtain ⟨q7, hq, h⟩ := Option.bind_eq_some_iff.mp h
                have f_q7 := jFr.step f_q6 (f_r_want q6 ((q6.1 114) (x1).toNatClampNeg) (0 : Int32) q6 jFr.rfl q7 hq) (by decide +kernel) (by decide +kernel)
                have h9 := Option.some.inj h
                subst h9
                exact f_q7
              · rw [if_neg hc5] at h
                rcases Classical.em (((σ.1 112) (x1).toNatClampNeg) = 15) with hc6 | hc6
                · rw [if_pos hc6] at h
                  have h9 := Option.some.inj h
                  subst h9
                  exact h0
                · rw [if_neg hc6] at h
                  exact f_r_check_414 σ0 x1 σ h0 _ h
  · rw [if_neg hc] at h
    obtain ⟨q10, hq, h⟩ := Option.bind_eq_some_iff.mp h
    have f_q10 := jFr.step h0 (f_r_fails σ (7 : Int32) x3 σ jFr.rfl q10 hq) (by decide +kernel) (by decide +kernel)
    obtain ⟨hb, h⟩ := jx_ite_inv h
    have h9 := Option.some.inj h
    subst h9
    exact f_q10
theorem f_r_check_181 (σ0 : jx_S) (x1 : Int32) (x2 : Int32) (x3 : Int32) (y0 : Int32) (σ : jx_S) (h0 : jFr ms_r_check fs_r_check σ0 σ) (t : (Int32 × jx_S)) (h : p_r_check_181 x1 x2 x3 y0 σ = some t) : fkI ms_r_check fs_r_check σ0 t := by
  unfold p_r_check_181 at h
  exact f_r_check_201 σ0 x1 x2 x3 y0 σ h0 _ h
theorem f_r_check_172 (σ0 : jx_S) (x1 : Int32) (x2 : Int32) (x3 : Int32) (σ : jx_S) (h0 : jFr ms_r_check fs_r_check σ0 σ) (t : (Int32 × jx_S)) (h : p_r_check_172 x1 x2 x3 σ = some t) : fkI ms_r_check fs_r_check σ0 t := by
  unfold p_r_check_172 at h
  rcases Classical.em (¬ x2 = 0) with hc | hc
  · rw [if_pos hc] at h
    exact f_r_check_181 σ0 x1 x2 x3 (0 : Int32) σ h0 _ h
  · rw [if_neg hc] at h
    exact f_r_check_181 σ0 x1 x2 x3 (1 : Int32) σ h0 _ h
theorem f_r_check_196 (σ0 : jx_S) (x1 : Int32) (x2 : Int32) (x3 : Int32) (y0 : Int32) (σ : jx_S) (h0 : jFr ms_r_check fs_r_check σ0 σ) (t : (Int32 × jx_S)) (h : p_r_check_196 x1 x2 x3 y0 σ = some t) : fkI ms_r_check fs_r_check σ0 t := by
  unfold p_r_check_196 at h
  exact f_r_check_201 σ0 x1 x2 x3 y0 σ h0 _ h
theorem f_r_check_186 (σ0 : jx_S) (x1 : Int32) (x2 : Int32) (x3 : Int32) (σ : jx_S) (h0 : jFr ms_r_check fs_r_check σ0 σ) (t : (Int32 × jx_S)) (h : p_r_check_186 x1 x2 x3 σ = some t) : fkI ms_r_check fs_r_check σ0 t := by
  unfold p_r_check_186 at h
  rcases Classical.em (¬ x2 = (1 : Int32)) with hc | hc
  · rw [if_pos hc] at h
    exact f_r_check_196 σ0 x1 x2 x3 (0 : Int32) σ h0 _ h
  · rw [if_neg hc] at h
    exact f_r_check_196 σ0 x1 x2 x3 (1 : Int32) σ h0 _ h
theorem f_r_check_46 (σ0 : jx_S) (x1 : Int32) (x2 : Int32) (x3 : Int32) (y0 : Int32) (σ : jx_S) (h0 : jFr ms_r_check fs_r_check σ0 σ) (t : (Int32 × jx_S)) (h : p_r_check_46 x1 x2 x3 y0 σ = some t) : fkI ms_r_check fs_r_check σ0 t := by
  unfold p_r_check_46 at h
  obtain ⟨hi, h⟩ := jx_ite0_inv h
  rcases Classical.em (((σ.1 112) (x1).toNatClampNeg) = 2) with hc0 | hc0
  · rw [if_pos hc0] at h
    exact f_r_check_172 σ0 x1 x2 x3 σ h0 _ h
  · rw [if_neg hc0] at h
    rcases Classical.em (((σ.1 112) (x1).toNatClampNeg) = 13) with hc1 | hc1
    · rw [if_pos hc1] at h
      exact f_r_check_186 σ0 x1 x2 x3 σ h0 _ h
    · rw [if_neg hc1] at h
      rcases Classical.em (((σ.1 112) (x1).toNatClampNeg) = 14) with hc2 | hc2
      · rw [if_pos hc2] at h
        exact f_r_check_186 σ0 x1 x2 x3 σ h0 _ h
      · rw [if_neg hc2] at h
        rcases Classical.em (((σ.1 112) (x1).toNatClampNeg) = 19) with hc3 | hc3
        · rw [if_pos hc3] at h
          exact f_r_check_172 σ0 x1 x2 x3 σ h0 _ h
        · rw [if_neg hc3] at h
          rcases Classical.em (((σ.1 112) (x1).toNatClampNeg) = 23) with hc4 | hc4
          · rw [if_pos hc4] at h
            exact f_r_check_172 σ0 x1 x2 x3 σ h0 _ h
          · rw [if_neg hc4] at h
            rcases Classical.em (((σ.1 112) (x1).toNatClampNeg) = 24) with hc5 | hc5
            · rw [if_pos hc5] at h
              exact f_r_check_172 σ0 x1 x2 x3 σ h0 _ h
            · rw [if_neg hc5] at h
              rcases Classical.em (((σ.1 112) (x1).toNatClampNeg) = 25) with hc6 | hc6
              · rw [if_pos hc6] at h
                exact f_r_check_172 σ0 x1 x2 x3 σ h0 _ h
              · rw [if_neg hc6] at h
                rcases Classical.em (((σ.1 112) (x1).toNatClampNeg) = 26) with hc7 | hc7
                · rw [if_pos hc7] at h
                  exact f_r_check_172 σ0 x1 x2 x3 σ h0 _ h
                · rw [if_neg hc7] at h
                  rcases Classical.em (((σ.1 112) (x1).toNatClampNeg) = 27) with hc8 | hc8
                  · rw [if_pos hc8] at h
                    exact f_r_check_172 σ0 x1 x2 x3 σ h0 _ h
                  · rw [if_neg hc8] at h
                    exact f_r_check_201 σ0 x1 x2 x3 y0 σ h0 _ h
theorem f_r_check (σ0 : jx_S) (x1 : Int32) (x2 : Int32) (σ : jx_S) (h0 : jFr ms_r_check fs_r_check σ0 σ) (t : (Int32 × jx_S)) (h : p_r_check x1 x2 σ = some t) : fkI ms_r_check fs_r_check σ0 t := by
  unfold p_r_check at h
  obtain ⟨hi, h⟩ := jx_ite0_inv h
  obtain ⟨hi, h⟩ := jx_ite0_inv h
  obtain ⟨hi, h⟩ := jx_ite0_inv h
  obtain ⟨hi, h⟩ := jx_ite0_inv h
  rcases Classical.em (¬ ((σ.1 112) (x1).toNatClampNeg) = (1 : Int32)) with hc | hc
  · rw [if_pos hc] at h
    rcases Classical.em ((2 : Int32) ≤ x2) with hc | hc
    · rw [if_pos hc] at h
      exact f_r_check_46 σ0 x1 x2 ((σ.1 109) (((σ.1 113) (x1).toNatClampNeg)).toNatClampNeg) (0 : Int32) (jx_i σ 124 (x1).toNatClampNeg x2) (jFr.ia h0 (by decide)) _ h
    · rw [if_neg hc] at h
      exact f_r_check_46 σ0 x1 x2 ((σ.1 109) (((σ.1 113) (x1).toNatClampNeg)).toNatClampNeg) (1 : Int32) (jx_i σ 124 (x1).toNatClampNeg x2) (jFr.ia h0 (by decide)) _ h
  · rw [if_neg hc] at h
    obtain ⟨q11, hq, h⟩ := Option.bind_eq_some_iff.mp h
    have f_q11 := jFr.step (jFr.ia h0 (by decide)) (f_r_checkName (jx_i σ 124 (x1).toNatClampNeg x2) x1 x2 (jx_i σ 124 (x1).toNatClampNeg x2) jFr.rfl q11 hq) (by decide +kernel) (by decide +kernel)
    obtain ⟨hb, h⟩ := jx_ite_inv h
    have h9 := Option.some.inj h
    subst h9
    exact f_q11
def ms_r_types : List Nat := [123, 124, 144, 145]
def fs_r_types : List (Nat × Nat) := [(106, 4), (106, 5), (106, 55), (106, 56)]
def fk_r_types_2 (σ0 : jx_S) (t : ((Int32 × jx_S) ⊕ (Int32 × jx_S))) : Prop := match t with
  | .inl s => jFr ms_r_types fs_r_types σ0 (s.2)
  | .inr t => fkI ms_r_types fs_r_types σ0 t
def fk_r_types_36 (σ0 : jx_S) (t : ((Int32 × jx_S) ⊕ ((Int32 × jx_S) ⊕ (Int32 × jx_S)))) : Prop := match t with
  | .inl s => jFr ms_r_types fs_r_types σ0 (s.2)
  | .inr t => fk_r_types_2 σ0 t
theorem f_r_types_36_s (σ0 : jx_S) (x1 : Int32) (σ : jx_S) (h0 : jFr ms_r_types fs_r_types σ0 σ) (t : ((Int32 × jx_S) ⊕ ((Int32 × jx_S) ⊕ (Int32 × jx_S)))) (h : p_r_types_36_s x1 σ = some t) : fk_r_types_36 σ0 t := by
  unfold p_r_types_36_s at h
  rcases Classical.em ((σ.1 106 55) ≤ 0) with hc | hc
  · rw [if_pos hc] at h
    obtain ⟨t9_3, h9_3, h8_3⟩ := Option.map_eq_some_iff.mp h
    clear h
    subst h8_3
    have h := h9_3
    clear h9_3
    have h9 := Option.some.inj h
    subst h9
    exact h0
  · rw [if_neg hc] at h
    obtain ⟨hi, h⟩ := jx_ite0_inv h
    obtain ⟨hi, h⟩ := jx_ite0_inv h
    obtain ⟨q4, hq, h⟩ := Option.bind_eq_some_iff.mp h
    have f_q4 := jFr.step (jFr.i h0 (by decide)) (f_r_check (jx_i σ 106 55 ((σ.1 106 55) - (1 : Int32))) ((σ.1 144) (((σ.1 106 55) - (1 : Int32))).toNatClampNeg) ((σ.1 145) (((σ.1 106 55) - (1 : Int32))).toNatClampNeg) (jx_i σ 106 55 ((σ.1 106 55) - (1 : Int32))) jFr.rfl q4 hq) (by decide +kernel) (by decide +kernel)
    rcases Classical.em (¬ q4.1 = 0) with hc | hc
    · rw [if_pos hc] at h
      have h9 := Option.some.inj h
      subst h9
      exact f_q4
    · rw [if_neg hc] at h
      obtain ⟨t9_6, h9_6, h8_6⟩ := Option.map_eq_some_iff.mp h
      clear h
      subst h8_6
      have h := h9_6
      clear h9_6
      obtain ⟨t9_5, h9_5, h8_5⟩ := Option.map_eq_some_iff.mp h
      clear h
      subst h8_5
      have h := h9_5
      clear h9_5
      have h9 := Option.some.inj h
      subst h9
      exact f_q4
theorem f_r_types_36 (σ0 : jx_S) (x1 : Int32) (σ : jx_S) (h0 : jFr ms_r_types fs_r_types σ0 σ) (t : ((Int32 × jx_S) ⊕ (Int32 × jx_S))) (h : p_r_types_36 x1 σ = some t) : fk_r_types_2 σ0 t := by
  refine jx_loop_ok (E := fun s t => jFr ms_r_types fs_r_types σ0 (s.2) → fk_r_types_2 σ0 t) (fun s t hs => ?_) _ _ _ h h0
  cases t with
  | inl s1 => exact fun b hb hf => hb (f_r_types_36_s σ0 (s.1) (s.2) hf _ hs)
  | inr b => exact fun hf => f_r_types_36_s σ0 (s.1) (s.2) hf _ hs
theorem f_r_types_2_s (σ0 : jx_S) (x1 : Int32) (σ : jx_S) (h0 : jFr ms_r_types fs_r_types σ0 σ) (t : ((Int32 × jx_S) ⊕ (Int32 × jx_S))) (h : p_r_types_2_s x1 σ = some t) : fk_r_types_2 σ0 t := by
  unfold p_r_types_2_s at h
  rcases Classical.em ((σ.1 106 38) ≤ x1) with hc | hc
  · rw [if_pos hc] at h
    obtain ⟨t9_1, h9_1, h8_1⟩ := Option.map_eq_some_iff.mp h
    clear h
    subst h8_1
    have h := h9_1
    clear h9_1
    have h9 := Option.some.inj h
    subst h9
    exact h0
  · rw [if_neg hc] at h
    obtain ⟨hi, h⟩ := jx_ite0_inv h
    obtain ⟨hi, h⟩ := jx_ite0_inv h
    obtain ⟨q2, hq, h⟩ := Option.bind_eq_some_iff.mp h
    have f_q2 := jFr.step (jFr.i (jFr.i h0 (by decide)) (by decide)) (f_r_want (jx_i (jx_i σ 106 56 x1) 106 55 (0 : Int32)) ((σ.1 131) (x1).toNatClampNeg) ((σ.1 128) (x1).toNatClampNeg) (jx_i (jx_i σ 106 56 x1) 106 55 (0 : Int32)) jFr.rfl q2 hq) (by decide +kernel) (by decide +kernel)
    exact f_r_types_36 σ0 x1 q2 f_q2 _ h
theorem f_r_types_2 (σ0 : jx_S) (x1 : Int32) (σ : jx_S) (h0 : jFr ms_r_types fs_r_types σ0 σ) (t : (Int32 × jx_S)) (h : p_r_types_2 x1 σ = some t) : fkI ms_r_types fs_r_types σ0 t := by
  refine jx_loop_ok (E := fun s t => jFr ms_r_types fs_r_types σ0 (s.2) → fkI ms_r_types fs_r_types σ0 t) (fun s t hs => ?_) _ _ _ h h0
  cases t with
  | inl s1 => exact fun b hb hf => hb (f_r_types_2_s σ0 (s.1) (s.2) hf _ hs)
  | inr b => exact fun hf => f_r_types_2_s σ0 (s.1) (s.2) hf _ hs
theorem f_r_types (σ0 : jx_S) (σ : jx_S) (h0 : jFr ms_r_types fs_r_types σ0 σ) (t : (Int32 × jx_S)) (h : p_r_types σ = some t) : fkI ms_r_types fs_r_types σ0 t := by
  unfold p_r_types at h
  exact f_r_types_2 σ0 (0 : Int32) σ h0 _ h
def ms_r_countCases : List Nat := [133]
def fs_r_countCases : List (Nat × Nat) := [(106, 4), (106, 5)]
def fk_r_countCases_2 (σ0 : jx_S) (t : ((Int32 × jx_S) ⊕ (Int32 × jx_S))) : Prop := match t with
  | .inl s => jFr ms_r_countCases fs_r_countCases σ0 (s.2)
  | .inr t => fkI ms_r_countCases fs_r_countCases σ0 t
def fk_r_countCases_14 (σ0 : jx_S) (t : ((Int32 × Int32 × Int32 × jx_S) ⊕ ((Int32 × jx_S) ⊕ (Int32 × jx_S)))) : Prop := match t with
  | .inl s => jFr ms_r_countCases fs_r_countCases σ0 (s.2.2.2)
  | .inr t => fk_r_countCases_2 σ0 t
theorem f_r_countCases_14_s (σ0 : jx_S) (x1 : Int32) (x2 : Int32) (x3 : Int32) (σ : jx_S) (h0 : jFr ms_r_countCases fs_r_countCases σ0 σ) (t : ((Int32 × Int32 × Int32 × jx_S) ⊕ ((Int32 × jx_S) ⊕ (Int32 × jx_S)))) (h : p_r_countCases_14_s x1 x2 x3 σ = some t) : fk_r_countCases_14 σ0 t := by
  unfold p_r_countCases_14_s at h
  obtain ⟨hi, h⟩ := jx_ite0_inv h
  rcases Classical.em (((σ.1 127) (x1).toNatClampNeg) ≤ x3) with hc | hc
  · rw [if_pos hc] at h
    obtain ⟨t9_4, h9_4, h8_4⟩ := Option.map_eq_some_iff.mp h
    clear h
    subst h8_4
    have h := h9_4
    clear h9_4
    rcases Classical.em (x2 ≤ (1000 : Int32)) with hc | hc
    · rw [if_pos hc] at h
      obtain ⟨hi, h⟩ := jx_ite0_inv h
      have h9 := Option.some.inj h
      subst h9
      exact (jFr.ia h0 (by decide))
    · rw [if_neg hc] at h
      obtain ⟨t9_3, h9_3, h8_3⟩ := Option.map_eq_some_iff.mp h
      clear h
      subst h8_3
      have h := h9_3
      clear h9_3
      obtain ⟨hi, h⟩ := jx_ite0_inv h
      obtain ⟨hi, h⟩ := jx_ite0_inv h
      obtain ⟨q2, hq, h⟩ := Option.bind_eq_some_iff.mp h
      have f_q2 := jFr.step h0 (f_r_fails σ (8 : Int32) ((σ.1 109) (((σ.1 126) (x1).toNatClampNeg)).toNatClampNeg) σ jFr.rfl q2 hq) (by decide +kernel) (by decide +kernel)
      obtain ⟨hb, h⟩ := jx_ite_inv h
      have h9 := Option.some.inj h
      subst h9
      exact f_q2
  · rw [if_neg hc] at h
    obtain ⟨hi, h⟩ := jx_ite0_inv h
    have h9 := Option.some.inj h
    subst h9
    exact h0
theorem f_r_countCases_14 (σ0 : jx_S) (x1 : Int32) (x2 : Int32) (x3 : Int32) (σ : jx_S) (h0 : jFr ms_r_countCases fs_r_countCases σ0 σ) (t : ((Int32 × jx_S) ⊕ (Int32 × jx_S))) (h : p_r_countCases_14 x1 x2 x3 σ = some t) : fk_r_countCases_2 σ0 t := by
  refine jx_loop_ok (E := fun s t => jFr ms_r_countCases fs_r_countCases σ0 (s.2.2.2) → fk_r_countCases_2 σ0 t) (fun s t hs => ?_) _ _ _ h h0
  cases t with
  | inl s1 => exact fun b hb hf => hb (f_r_countCases_14_s σ0 (s.1) (s.2.1) (s.2.2.1) (s.2.2.2) hf _ hs)
  | inr b => exact fun hf => f_r_countCases_14_s σ0 (s.1) (s.2.1) (s.2.2.1) (s.2.2.2) hf _ hs
theorem f_r_countCases_2_s (σ0 : jx_S) (x1 : Int32) (σ : jx_S) (h0 : jFr ms_r_countCases fs_r_countCases σ0 σ) (t : ((Int32 × jx_S) ⊕ (Int32 × jx_S))) (h : p_r_countCases_2_s x1 σ = some t) : fk_r_countCases_2 σ0 t := by
  unfold p_r_countCases_2_s at h
  rcases Classical.em ((σ.1 106 38) ≤ x1) with hc | hc
  · rw [if_pos hc] at h
    obtain ⟨t9_1, h9_1, h8_1⟩ := Option.map_eq_some_iff.mp h
    clear h
    subst h8_1
    have h := h9_1
    clear h9_1
    have h9 := Option.some.inj h
    subst h9
    exact h0
  · rw [if_neg hc] at h
    exact f_r_countCases_14 σ0 x1 (1 : Int32) (0 : Int32) σ h0 _ h
theorem f_r_countCases_2 (σ0 : jx_S) (x1 : Int32) (σ : jx_S) (h0 : jFr ms_r_countCases fs_r_countCases σ0 σ) (t : (Int32 × jx_S)) (h : p_r_countCases_2 x1 σ = some t) : fkI ms_r_countCases fs_r_countCases σ0 t := by
  refine jx_loop_ok (E := fun s t => jFr ms_r_countCases fs_r_countCases σ0 (s.2) → fkI ms_r_countCases fs_r_countCases σ0 t) (fun s t hs => ?_) _ _ _ h h0
  cases t with
  | inl s1 => exact fun b hb hf => hb (f_r_countCases_2_s σ0 (s.1) (s.2) hf _ hs)
  | inr b => exact fun hf => f_r_countCases_2_s σ0 (s.1) (s.2) hf _ hs
theorem f_r_countCases (σ0 : jx_S) (σ : jx_S) (h0 : jFr ms_r_countCases fs_r_countCases σ0 σ) (t : (Int32 × jx_S)) (h : p_r_countCases σ = some t) : fkI ms_r_countCases fs_r_countCases σ0 t := by
  unfold p_r_countCases at h
  exact f_r_countCases_2 σ0 (0 : Int32) σ h0 _ h
def ms_r_called : List Nat := []
def fs_r_called : List (Nat × Nat) := []
def fk_r_called_22 (σ0 : jx_S) (t : ((Int32 × Int32 × Int32 × Int32 × Int32 × Int32 × Int32 × jx_S) ⊕ (Int32 × jx_S))) : Prop := match t with
  | .inl s => jFr ms_r_called fs_r_called σ0 (s.2.2.2.2.2.2.2)
  | .inr t => fkI ms_r_called fs_r_called σ0 t
theorem f_r_called_96 (σ0 : jx_S) (x1 : Int32) (x2 : Int32) (x3 : Int32) (x4 : Int32) (x5 : Int32) (x7 : Int32) (x8 : Int32) (y0 : Int32) (σ : jx_S) (h0 : jFr ms_r_called fs_r_called σ0 σ) (t : ((Int32 × Int32 × Int32 × Int32 × Int32 × Int32 × Int32 × jx_S) ⊕ (Int32 × jx_S))) (h : p_r_called_96 x1 x2 x3 x4 x5 x7 x8 y0 σ = some t) : fk_r_called_22 σ0 t := by
  unfold p_r_called_96 at h
  obtain ⟨hi, h⟩ := jx_ite0_inv h
  have h9 := Option.some.inj h
  subst h9
  exact h0
theorem f_r_called_71 (σ0 : jx_S) (x1 : Int32) (x2 : Int32) (x3 : Int32) (x4 : Int32) (x5 : Int32) (x6 : Int32) (x7 : Int32) (y0 : Int32) (σ : jx_S) (h0 : jFr ms_r_called fs_r_called σ0 σ) (t : ((Int32 × Int32 × Int32 × Int32 × Int32 × Int32 × Int32 × jx_S) ⊕ (Int32 × jx_S))) (h : p_r_called_71 x1 x2 x3 x4 x5 x6 x7 y0 σ = some t) : fk_r_called_22 σ0 t := by
  unfold p_r_called_71 at h
  obtain ⟨hi, h⟩ := jx_ite0_inv h
  rcases Classical.em (((σ.1 119) (x1).toNatClampNeg) ≤ x7) with hc | hc
  · rw [if_pos hc] at h
    exact f_r_called_96 σ0 x1 x2 x3 x4 x5 x7 y0 x6 σ h0 _ h
  · rw [if_neg hc] at h
    obtain ⟨hi, h⟩ := jx_ite0_inv h
    exact f_r_called_96 σ0 x1 x2 x3 x4 x5 x7 y0 ((σ.1 120) (x6).toNatClampNeg) σ h0 _ h
theorem f_r_called_22_s (σ0 : jx_S) (x1 : Int32) (x2 : Int32) (x3 : Int32) (x4 : Int32) (x5 : Int32) (x6 : Int32) (x7 : Int32) (σ : jx_S) (h0 : jFr ms_r_called fs_r_called σ0 σ) (t : ((Int32 × Int32 × Int32 × Int32 × Int32 × Int32 × Int32 × jx_S) ⊕ (Int32 × jx_S))) (h : p_r_called_22_s x1 x2 x3 x4 x5 x6 x7 σ = some t) : fk_r_called_22 σ0 t := by
  unfold p_r_called_22_s at h
  obtain ⟨hi, h⟩ := jx_ite0_inv h
  rcases Classical.em (((σ.1 127) (x4).toNatClampNeg) ≤ x7) with hc | hc
  · rw [if_pos hc] at h
    obtain ⟨t9_1, h9_1, h8_1⟩ := Option.map_eq_some_iff.mp h
    clear h
    subst h8_1
    have h := h9_1
    clear h9_1
    obtain ⟨hi, h⟩ := jx_ite0_inv h
    have h9 := Option.some.inj h
    subst h9
    exact h0
  · rw [if_neg hc] at h
    obtain ⟨hi, h⟩ := jx_ite0_inv h
    rcases Classical.em (((σ.1 119) (x1).toNatClampNeg) ≤ x7) with hc | hc
    · rw [if_pos hc] at h
      obtain ⟨hi, h⟩ := jx_ite0_inv h
      rcases Classical.em (¬ x7 = ((σ.1 119) (x1).toNatClampNeg)) with hc | hc
      · rw [if_pos hc] at h
        exact f_r_called_71 σ0 x1 x2 x3 x4 x5 x6 x7 x3 σ h0 _ h
      · rw [if_neg hc] at h
        exact f_r_called_71 σ0 x1 x2 x3 x4 x5 x6 x7 x2 σ h0 _ h
    · rw [if_neg hc] at h
      obtain ⟨hi, h⟩ := jx_ite0_inv h
      exact f_r_called_71 σ0 x1 x2 x3 x4 x5 x6 x7 ((σ.1 148) (x6).toNatClampNeg) σ h0 _ h
theorem f_r_called_22 (σ0 : jx_S) (x1 : Int32) (x2 : Int32) (x3 : Int32) (x4 : Int32) (x5 : Int32) (x6 : Int32) (x7 : Int32) (σ : jx_S) (h0 : jFr ms_r_called fs_r_called σ0 σ) (t : (Int32 × jx_S)) (h : p_r_called_22 x1 x2 x3 x4 x5 x6 x7 σ = some t) : fkI ms_r_called fs_r_called σ0 t := by
  refine jx_loop_ok (E := fun s t => jFr ms_r_called fs_r_called σ0 (s.2.2.2.2.2.2.2) → fkI ms_r_called fs_r_called σ0 t) (fun s t hs => ?_) _ _ _ h h0
  cases t with
  | inl s1 => exact fun b hb hf => hb (f_r_called_22_s σ0 (s.1) (s.2.1) (s.2.2.1) (s.2.2.2.1) (s.2.2.2.2.1) (s.2.2.2.2.2.1) (s.2.2.2.2.2.2.1) (s.2.2.2.2.2.2.2) hf _ hs)
  | inr b => exact fun hf => f_r_called_22_s σ0 (s.1) (s.2.1) (s.2.2.1) (s.2.2.2.1) (s.2.2.2.2.1) (s.2.2.2.2.2.1) (s.2.2.2.2.2.2.1) (s.2.2.2.2.2.2.2) hf _ hs
theorem f_r_called (σ0 : jx_S) (x1 : Int32) (x2 : Int32) (x3 : Int32) (σ : jx_S) (h0 : jFr ms_r_called fs_r_called σ0 σ) (t : (Int32 × jx_S)) (h : p_r_called x1 x2 x3 σ = some t) : fkI ms_r_called fs_r_called σ0 t := by
  unfold p_r_called at h
  obtain ⟨hi, h⟩ := jx_ite0_inv h
  obtain ⟨hi, h⟩ := jx_ite0_inv h
  exact f_r_called_22 σ0 x1 x2 x3 ((σ.1 123) (x1).toNatClampNeg) (0 : Int32) ((σ.1 114) (x1).toNatClampNeg) (0 : Int32) σ h0 _ h
def ms_r_ofLocal : List Nat := []
def fs_r_ofLocal : List (Nat × Nat) := []
theorem f_r_ofLocal_113 (σ0 : jx_S) (x4 : Int32) (x5 : Int32) (x6 : Int32) (y0 : Int32) (σ : jx_S) (h0 : jFr ms_r_ofLocal fs_r_ofLocal σ0 σ) (t : (Int32 × jx_S)) (h : p_r_ofLocal_113 x4 x5 x6 y0 σ = some t) : fkI ms_r_ofLocal fs_r_ofLocal σ0 t := by
  unfold p_r_ofLocal_113 at h
  have h9 := Option.some.inj h
  subst h9
  exact h0
theorem f_r_ofLocal_67 (σ0 : jx_S) (x1 : Int32) (x2 : Int32) (x3 : Int32) (x4 : Int32) (x5 : Int32) (y0 : Int32) (σ : jx_S) (h0 : jFr ms_r_ofLocal fs_r_ofLocal σ0 σ) (t : (Int32 × jx_S)) (h : p_r_ofLocal_67 x1 x2 x3 x4 x5 y0 σ = some t) : fkI ms_r_ofLocal fs_r_ofLocal σ0 t := by
  unfold p_r_ofLocal_67 at h
  obtain ⟨hi, h⟩ := jx_ite0_inv h
  rcases Classical.em (((σ.1 119) (x1).toNatClampNeg) ≤ (1 : Int32)) with hc | hc
  · rw [if_pos hc] at h
    obtain ⟨hi, h⟩ := jx_ite0_inv h
    rcases Classical.em (¬ ((σ.1 119) (x1).toNatClampNeg) = (1 : Int32)) with hc | hc
    · rw [if_pos hc] at h
      exact f_r_ofLocal_113 σ0 x4 x5 y0 x3 σ h0 _ h
    · rw [if_neg hc] at h
      exact f_r_ofLocal_113 σ0 x4 x5 y0 x2 σ h0 _ h
  · rw [if_neg hc] at h
    obtain ⟨hi, h⟩ := jx_ite0_inv h
    obtain ⟨hi, h⟩ := jx_ite0_inv h
    obtain ⟨hi, h⟩ := jx_ite0_inv h
    exact f_r_ofLocal_113 σ0 x4 x5 y0 ((σ.1 148) (((σ.1 120) (((σ.1 114) (x1).toNatClampNeg)).toNatClampNeg)).toNatClampNeg) σ h0 _ h
theorem f_r_ofLocal (σ0 : jx_S) (x1 : Int32) (x2 : Int32) (x3 : Int32) (σ : jx_S) (h0 : jFr ms_r_ofLocal fs_r_ofLocal σ0 σ) (t : (Int32 × jx_S)) (h : p_r_ofLocal x1 x2 x3 σ = some t) : fkI ms_r_ofLocal fs_r_ofLocal σ0 t := by
  unfold p_r_ofLocal at h
  obtain ⟨hi, h⟩ := jx_ite0_inv h
  obtain ⟨hi, h⟩ := jx_ite0_inv h
  obtain ⟨hi, h⟩ := jx_ite0_inv h
  obtain ⟨hi, h⟩ := jx_ite0_inv h
  rcases Classical.em ((2 : Int32) ≤ ((σ.1 137) ((((30 : Int32) * (σ.1 106 56)) + ((σ.1 117) (x1).toNatClampNeg))).toNatClampNeg)) with hc | hc
  · rw [if_pos hc] at h
    obtain ⟨hi, h⟩ := jx_ite0_inv h
    rcases Classical.em (((σ.1 119) (x1).toNatClampNeg) ≤ 0) with hc | hc
    · rw [if_pos hc] at h
      exact f_r_ofLocal_67 σ0 x1 x2 x3 ((σ.1 137) ((((30 : Int32) * (σ.1 106 56)) + ((σ.1 117) (x1).toNatClampNeg))).toNatClampNeg) ((σ.1 149) (((σ.1 117) (x1).toNatClampNeg)).toNatClampNeg) x2 σ h0 _ h
    · rw [if_neg hc] at h
      obtain ⟨hi, h⟩ := jx_ite0_inv h
      obtain ⟨hi, h⟩ := jx_ite0_inv h
      exact f_r_ofLocal_67 σ0 x1 x2 x3 ((σ.1 137) ((((30 : Int32) * (σ.1 106 56)) + ((σ.1 117) (x1).toNatClampNeg))).toNatClampNeg) ((σ.1 149) (((σ.1 117) (x1).toNatClampNeg)).toNatClampNeg) ((σ.1 148) (((σ.1 114) (x1).toNatClampNeg)).toNatClampNeg) σ h0 _ h
  · rw [if_neg hc] at h
    have h9 := Option.some.inj h
    subst h9
    exact h0
def ms_r_ofName : List Nat := []
def fs_r_ofName : List (Nat × Nat) := []
theorem f_r_ofName (σ0 : jx_S) (x1 : Int32) (x2 : Int32) (x3 : Int32) (σ : jx_S) (h0 : jFr ms_r_ofName fs_r_ofName σ0 σ) (t : (Int32 × jx_S)) (h : p_r_ofName x1 x2 x3 σ = some t) : fkI ms_r_ofName fs_r_ofName σ0 t := by
  unfold p_r_ofName at h
  obtain ⟨hi, h⟩ := jx_ite0_inv h
  rcases Classical.em (((σ.1 117) (x1).toNatClampNeg) < 0) with hc | hc
  · rw [if_pos hc] at h
    obtain ⟨q1, hq, h⟩ := Option.bind_eq_some_iff.mp h
    have f_q1 := jFr.step h0 (f_r_called σ x1 x2 x3 σ jFr.rfl q1 hq) (by decide +kernel) (by decide +kernel)
    have h9 := Option.some.inj h
    subst h9
    exact f_q1
  · rw [if_neg hc] at h
    obtain ⟨q2, hq, h⟩ := Option.bind_eq_some_iff.mp h
    have f_q2 := jFr.step h0 (f_r_ofLocal σ x1 x2 x3 σ jFr.rfl q2 hq) (by decide +kernel) (by decide +kernel)
    have h9 := Option.some.inj h
    subst h9
    exact f_q2
def ms_r_pointOf : List Nat := []
def fs_r_pointOf : List (Nat × Nat) := []
theorem f_r_pointOf_96 (σ0 : jx_S) (x1 : Int32) (σ : jx_S) (h0 : jFr ms_r_pointOf fs_r_pointOf σ0 σ) (t : (Int32 × jx_S)) (h : p_r_pointOf_96 x1 σ = some t) : fkI ms_r_pointOf fs_r_pointOf σ0 t := by
  unfold p_r_pointOf_96 at h
  obtain ⟨hi, h⟩ := jx_ite0_inv h
  obtain ⟨hi, h⟩ := jx_ite0_inv h
  obtain ⟨hi, h⟩ := jx_ite0_inv h
  obtain ⟨hi, h⟩ := jx_ite0_inv h
  obtain ⟨hi, h⟩ := jx_ite0_inv h
  obtain ⟨hi, h⟩ := jx_ite0_inv h
  have h9 := Option.some.inj h
  subst h9
  exact h0
theorem f_r_pointOf_214 (σ0 : jx_S) (x1 : Int32) (σ : jx_S) (h0 : jFr ms_r_pointOf fs_r_pointOf σ0 σ) (t : (Int32 × jx_S)) (h : p_r_pointOf_214 x1 σ = some t) : fkI ms_r_pointOf fs_r_pointOf σ0 t := by
  unfold p_r_pointOf_214 at h
  obtain ⟨hi, h⟩ := jx_ite0_inv h
  obtain ⟨hi, h⟩ := jx_ite0_inv h
  obtain ⟨hi, h⟩ := jx_ite0_inv h
  obtain ⟨hi, h⟩ := jx_ite0_inv h
  have h9 := Option.some.inj h
  subst h9
  exact h0
theorem f_r_pointOf (σ0 : jx_S) (x1 : Int32) (σ : jx_S) (h0 : jFr ms_r_pointOf fs_r_pointOf σ0 σ) (t : (Int32 × jx_S)) (h : p_r_pointOf x1 σ = some t) : fkI ms_r_pointOf fs_r_pointOf σ0 t := by
  unfold p_r_pointOf at h
  obtain ⟨hi, h⟩ := jx_ite0_inv h
  rcases Classical.em (((σ.1 112) (x1).toNatClampNeg) = 1) with hc0 | hc0
  · rw [if_pos hc0] at h
    obtain ⟨q1, hq, h⟩ := Option.bind_eq_some_iff.mp h
    have f_q1 := jFr.step h0 (f_r_takes σ x1 σ jFr.rfl q1 hq) (by decide +kernel) (by decide +kernel)
    obtain ⟨hi, h⟩ := jx_ite0_inv h
    rcases Classical.em (¬ (q1.1 - ((q1.2.1 119) (x1).toNatClampNeg)) = 0) with hc | hc
    · rw [if_pos hc] at h
      rcases Classical.em (¬ (q1.1 - ((q1.2.1 119) (x1).toNatClampNeg)) = (1 : Int32)) with hc | hc
      · rw [if_pos hc] at h
        obtain ⟨q2, hq, h⟩ := Option.bind_eq_some_iff.mp h
        have f_q2 := jFr.step f_q1 (f_r_ofName q1.2 x1 (0 : Int32) (0 : Int32) q1.2 jFr.rfl q2 hq) (by decide +kernel) (by decide +kernel)
        obtain ⟨q3, hq, h⟩ := Option.bind_eq_some_iff.mp h
        have f_q3 := jFr.step f_q2 (f_r_ofName q2.2 x1 (0 : Int32) (1 : Int32) q2.2 jFr.rfl q3 hq) (by decide +kernel) (by decide +kernel)
        obtain ⟨q4, hq, h⟩ := Option.bind_eq_some_iff.mp h
        have f_q4 := jFr.step f_q3 (f_r_ofName q3.2 x1 (1 : Int32) (0 : Int32) q3.2 jFr.rfl q4 hq) (by decide +kernel) (by decide +kernel)
        obtain ⟨q5, hq, h⟩ := Option.bind_eq_some_iff.mp h
        have f_q5 := jFr.step f_q4 (f_r_ofName q4.2 x1 (1 : Int32) (1 : Int32) q4.2 jFr.rfl q5 hq) (by decide +kernel) (by decide +kernel)
        have h9 := Option.some.inj h
        subst h9
        exact f_q5
      · rw [if_neg hc] at h
        obtain ⟨q6, hq, h⟩ := Option.bind_eq_some_iff.mp h
        have f_q6 := jFr.step f_q1 (f_r_ofName q1.2 x1 (0 : Int32) (0 : Int32) q1.2 jFr.rfl q6 hq) (by decide +kernel) (by decide +kernel)
        obtain ⟨q7, hq, h⟩ := Option.bind_eq_some_iff.mp h
        have f_q7 := jFr.step f_q6 (f_r_ofName q6.2 x1 (1 : Int32) (0 : Int32) q6.2 jFr.rfl q7 hq) (by decide +kernel) (by decide +kernel)
        have h9 := Option.some.inj h
        subst h9
        exact f_q7
    · rw [if_neg hc] at h
      obtain ⟨q8, hq, h⟩ := Option.bind_eq_some_iff.mp h
      have f_q8 := jFr.step f_q1 (f_r_ofName q1.2 x1 (0 : Int32) (0 : Int32) q1.2 jFr.rfl q8 hq) (by decide +kernel) (by decide +kernel)
      have h9 := Option.some.inj h
      subst h9
      exact f_q8
  · rw [if_neg hc0] at h
    rcases Classical.em (((σ.1 112) (x1).toNatClampNeg) = 2) with hc1 | hc1
    · rw [if_pos hc1] at h
      have h9 := Option.some.inj h
      subst h9
      exact h0
    · rw [if_neg hc1] at h
      rcases Classical.em (((σ.1 112) (x1).toNatClampNeg) = 5) with hc2 | hc2
      · rw [if_pos hc2] at h
        obtain ⟨hi, h⟩ := jx_ite0_inv h
        obtain ⟨hi, h⟩ := jx_ite0_inv h
        have h9 := Option.some.inj h
        subst h9
        exact h0
      · rw [if_neg hc2] at h
        rcases Classical.em (((σ.1 112) (x1).toNatClampNeg) = 7) with hc3 | hc3
        · rw [if_pos hc3] at h
          exact f_r_pointOf_96 σ0 x1 σ h0 _ h
        · rw [if_neg hc3] at h
          rcases Classical.em (((σ.1 112) (x1).toNatClampNeg) = 10) with hc4 | hc4
          · rw [if_pos hc4] at h
            exact f_r_pointOf_96 σ0 x1 σ h0 _ h
          · rw [if_neg hc4] at h
            rcases Classical.em (((σ.1 112) (x1).toNatClampNeg) = 13) with hc5 | hc5
            · rw [if_pos hc5] at h
              have h9 := Option.some.inj h
              subst h9
              exact h0
            · rw [if_neg hc5] at h
              rcases Classical.em (((σ.1 112) (x1).toNatClampNeg) = 14) with hc6 | hc6
              · rw [if_pos hc6] at h
                have h9 := Option.some.inj h
                subst h9
                exact h0
              · rw [if_neg hc6] at h
                rcases Classical.em (((σ.1 112) (x1).toNatClampNeg) = 15) with hc7 | hc7
                · rw [if_pos hc7] at h
                  have h9 := Option.some.inj h
                  subst h9
                  exact h0
                · rw [if_neg hc7] at h
                  exact f_r_pointOf_214 σ0 x1 σ h0 _ h
def ms_r_work : List Nat := [148, 149]
def fs_r_work : List (Nat × Nat) := []
def fk_r_work_2 (σ0 : jx_S) (t : ((Int32 × Int32 × jx_S) ⊕ (Int32 × jx_S))) : Prop := match t with
  | .inl s => jFr ms_r_work fs_r_work σ0 (s.2.2)
  | .inr t => fkI ms_r_work fs_r_work σ0 t
theorem f_r_work_44 (σ0 : jx_S) (x2 : Int32) (x3 : Int32) (σ : jx_S) (h0 : jFr ms_r_work fs_r_work σ0 σ) (t : ((Int32 × Int32 × jx_S) ⊕ (Int32 × jx_S))) (h : p_r_work_44 x2 x3 σ = some t) : fk_r_work_2 σ0 t := by
  unfold p_r_work_44 at h
  have h9 := Option.some.inj h
  subst h9
  exact h0
theorem f_r_work_2_s (σ0 : jx_S) (x2 : Int32) (x3 : Int32) (σ : jx_S) (h0 : jFr ms_r_work fs_r_work σ0 σ) (t : ((Int32 × Int32 × jx_S) ⊕ (Int32 × jx_S))) (h : p_r_work_2_s x2 x3 σ = some t) : fk_r_work_2 σ0 t := by
  unfold p_r_work_2_s at h
  rcases Classical.em (x2 < x3) with hc | hc
  · rw [if_pos hc] at h
    obtain ⟨t9_1, h9_1, h8_1⟩ := Option.map_eq_some_iff.mp h
    clear h
    subst h8_1
    have h := h9_1
    clear h9_1
    obtain ⟨hi, h⟩ := jx_ite0_inv h
    have h9 := Option.some.inj h
    subst h9
    exact h0
  · rw [if_neg hc] at h
    obtain ⟨q2, hq, h⟩ := Option.bind_eq_some_iff.mp h
    have f_q2 := jFr.step h0 (f_r_pointOf σ x3 σ jFr.rfl q2 hq) (by decide +kernel) (by decide +kernel)
    obtain ⟨hi, h⟩ := jx_ite0_inv h
    obtain ⟨hi, h⟩ := jx_ite0_inv h
    rcases Classical.em (((q2.2.1 122) (x3).toNatClampNeg) < 0) with hc | hc
    · rw [if_pos hc] at h
      exact f_r_work_44 σ0 x2 x3 (jx_i q2.2 148 (x3).toNatClampNeg q2.1) (jFr.ia f_q2 (by decide)) _ h
    · rw [if_neg hc] at h
      obtain ⟨hi, h⟩ := jx_ite0_inv h
      obtain ⟨hi, h⟩ := jx_ite0_inv h
      obtain ⟨hi, h⟩ := jx_ite0_inv h
      exact f_r_work_44 σ0 x2 x3 (jx_i (jx_i q2.2 148 (x3).toNatClampNeg q2.1) 149 (((q2.2.1 122) (x3).toNatClampNeg)).toNatClampNeg (((jx_i q2.2 148 (x3).toNatClampNeg q2.1).1 148) (x3).toNatClampNeg)) (jFr.ia (jFr.ia f_q2 (by decide)) (by decide)) _ h
theorem f_r_work_2 (σ0 : jx_S) (x2 : Int32) (x3 : Int32) (σ : jx_S) (h0 : jFr ms_r_work fs_r_work σ0 σ) (t : (Int32 × jx_S)) (h : p_r_work_2 x2 x3 σ = some t) : fkI ms_r_work fs_r_work σ0 t := by
  refine jx_loop_ok (E := fun s t => jFr ms_r_work fs_r_work σ0 (s.2.2) → fkI ms_r_work fs_r_work σ0 t) (fun s t hs => ?_) _ _ _ h h0
  cases t with
  | inl s1 => exact fun b hb hf => hb (f_r_work_2_s σ0 (s.1) (s.2.1) (s.2.2) hf _ hs)
  | inr b => exact fun hf => f_r_work_2_s σ0 (s.1) (s.2.1) (s.2.2) hf _ hs
theorem f_r_work (σ0 : jx_S) (x1 : Int32) (x2 : Int32) (σ : jx_S) (h0 : jFr ms_r_work fs_r_work σ0 σ) (t : (Int32 × jx_S)) (h : p_r_work x1 x2 σ = some t) : fkI ms_r_work fs_r_work σ0 t := by
  unfold p_r_work at h
  exact f_r_work_2 σ0 x2 x1 σ h0 _ h
def ms_r_greatest : List Nat := [149]
def fs_r_greatest : List (Nat × Nat) := [(106, 56)]
def fk_r_greatest_7 (σ0 : jx_S) (t : ((Int32 × Int32 × jx_S) ⊕ jx_S)) : Prop := match t with
  | .inl s => jFr ms_r_greatest fs_r_greatest σ0 (s.2.2)
  | .inr t => fkV ms_r_greatest fs_r_greatest σ0 t
theorem f_r_greatest_7_s (σ0 : jx_S) (x1 : Int32) (x2 : Int32) (σ : jx_S) (h0 : jFr ms_r_greatest fs_r_greatest σ0 σ) (t : ((Int32 × Int32 × jx_S) ⊕ jx_S)) (h : p_r_greatest_7_s x1 x2 σ = some t) : fk_r_greatest_7 σ0 t := by
  unfold p_r_greatest_7_s at h
  obtain ⟨hi, h⟩ := jx_ite0_inv h
  rcases Classical.em (((σ.1 129) (x1).toNatClampNeg) ≤ x2) with hc | hc
  · rw [if_pos hc] at h
    obtain ⟨t9_1, h9_1, h8_1⟩ := Option.map_eq_some_iff.mp h
    clear h
    subst h8_1
    have h := h9_1
    clear h9_1
    have h9 := Option.some.inj h
    subst h9
    exact h0
  · rw [if_neg hc] at h
    obtain ⟨hi, h⟩ := jx_ite0_inv h
    obtain ⟨hi, h⟩ := jx_ite0_inv h
    have h9 := Option.some.inj h
    subst h9
    exact (jFr.ia h0 (by decide))
theorem f_r_greatest_7 (σ0 : jx_S) (x1 : Int32) (x2 : Int32) (σ : jx_S) (h0 : jFr ms_r_greatest fs_r_greatest σ0 σ) (t : jx_S) (h : p_r_greatest_7 x1 x2 σ = some t) : fkV ms_r_greatest fs_r_greatest σ0 t := by
  refine jx_loop_ok (E := fun s t => jFr ms_r_greatest fs_r_greatest σ0 (s.2.2) → fkV ms_r_greatest fs_r_greatest σ0 t) (fun s t hs => ?_) _ _ _ h h0
  cases t with
  | inl s1 => exact fun b hb hf => hb (f_r_greatest_7_s σ0 (s.1) (s.2.1) (s.2.2) hf _ hs)
  | inr b => exact fun hf => f_r_greatest_7_s σ0 (s.1) (s.2.1) (s.2.2) hf _ hs
theorem f_r_greatest (σ0 : jx_S) (x1 : Int32) (σ : jx_S) (h0 : jFr ms_r_greatest fs_r_greatest σ0 σ) (t : jx_S) (h : p_r_greatest x1 σ = some t) : fkV ms_r_greatest fs_r_greatest σ0 t := by
  unfold p_r_greatest at h
  exact f_r_greatest_7 σ0 x1 (0 : Int32) (jx_i σ 106 56 x1) (jFr.i h0 (by decide)) _ h
def ms_r_round : List Nat := [146, 147, 148, 149]
def fs_r_round : List (Nat × Nat) := [(106, 39), (106, 56)]
def fk_r_round_4 (σ0 : jx_S) (t : ((Int32 × Int32 × jx_S) ⊕ (Int32 × jx_S))) : Prop := match t with
  | .inl s => jFr ms_r_round fs_r_round σ0 (s.2.2)
  | .inr t => fkI ms_r_round fs_r_round σ0 t
def fk_r_round_166 (σ0 : jx_S) (t : ((Int32 × Int32 × jx_S) ⊕ (Int32 × jx_S))) : Prop := match t with
  | .inl s => jFr ms_r_round fs_r_round σ0 (s.2.2)
  | .inr t => fkI ms_r_round fs_r_round σ0 t
theorem f_r_round_166_s (σ0 : jx_S) (x1 : Int32) (x2 : Int32) (σ : jx_S) (h0 : jFr ms_r_round fs_r_round σ0 σ) (t : ((Int32 × Int32 × jx_S) ⊕ (Int32 × jx_S))) (h : p_r_round_166_s x1 x2 σ = some t) : fk_r_round_166 σ0 t := by
  unfold p_r_round_166_s at h
  rcases Classical.em (((1000 : Int32) * (σ.1 106 38)) ≤ x2) with hc | hc
  · rw [if_pos hc] at h
    obtain ⟨t9_1, h9_1, h8_1⟩ := Option.map_eq_some_iff.mp h
    clear h
    subst h8_1
    have h := h9_1
    clear h9_1
    obtain ⟨hb, h⟩ := jx_ite_inv h
    have h9 := Option.some.inj h
    subst h9
    exact (jFr.i h0 (by decide))
  · rw [if_neg hc] at h
    obtain ⟨hi, h⟩ := jx_ite0_inv h
    obtain ⟨hi, h⟩ := jx_ite0_inv h
    have h9 := Option.some.inj h
    subst h9
    exact (jFr.ia h0 (by decide))
theorem f_r_round_166 (σ0 : jx_S) (x1 : Int32) (x2 : Int32) (σ : jx_S) (h0 : jFr ms_r_round fs_r_round σ0 σ) (t : (Int32 × jx_S)) (h : p_r_round_166 x1 x2 σ = some t) : fkI ms_r_round fs_r_round σ0 t := by
  refine jx_loop_ok (E := fun s t => jFr ms_r_round fs_r_round σ0 (s.2.2) → fkI ms_r_round fs_r_round σ0 t) (fun s t hs => ?_) _ _ _ h h0
  cases t with
  | inl s1 => exact fun b hb hf => hb (f_r_round_166_s σ0 (s.1) (s.2.1) (s.2.2) hf _ hs)
  | inr b => exact fun hf => f_r_round_166_s σ0 (s.1) (s.2.1) (s.2.2) hf _ hs
def fk_r_round_14 (σ0 : jx_S) (t : ((Int32 × Int32 × Int32 × jx_S) ⊕ ((Int32 × Int32 × jx_S) ⊕ (Int32 × jx_S)))) : Prop := match t with
  | .inl s => jFr ms_r_round fs_r_round σ0 (s.2.2.2)
  | .inr t => fk_r_round_4 σ0 t
def fk_r_round_42 (σ0 : jx_S) (t : ((Int32 × Int32 × Int32 × Int32 × Int32 × jx_S) ⊕ ((Int32 × Int32 × Int32 × jx_S) ⊕ ((Int32 × Int32 × jx_S) ⊕ (Int32 × jx_S))))) : Prop := match t with
  | .inl s => jFr ms_r_round fs_r_round σ0 (s.2.2.2.2.2)
  | .inr t => fk_r_round_14 σ0 t
theorem f_r_round_150 (σ0 : jx_S) (x2 : Int32) (x3 : Int32) (y0 : Int32) (y1 : Int32) (σ : jx_S) (h0 : jFr ms_r_round fs_r_round σ0 σ) (t : ((Int32 × Int32 × Int32 × jx_S) ⊕ ((Int32 × Int32 × jx_S) ⊕ (Int32 × jx_S)))) (h : p_r_round_150 x2 x3 y0 y1 σ = some t) : fk_r_round_14 σ0 t := by
  unfold p_r_round_150 at h
  have h9 := Option.some.inj h
  subst h9
  exact h0
theorem f_r_round_42_s (σ0 : jx_S) (x1 : Int32) (x2 : Int32) (x3 : Int32) (x4 : Int32) (x5 : Int32) (σ : jx_S) (h0 : jFr ms_r_round fs_r_round σ0 σ) (t : ((Int32 × Int32 × Int32 × Int32 × Int32 × jx_S) ⊕ ((Int32 × Int32 × Int32 × jx_S) ⊕ ((Int32 × Int32 × jx_S) ⊕ (Int32 × jx_S))))) (h : p_r_round_42_s x1 x2 x3 x4 x5 σ = some t) : fk_r_round_42 σ0 t := by
  unfold p_r_round_42_s at h
  rcases Classical.em (x5 < 0) with hc | hc
  · rw [if_pos hc] at h
    obtain ⟨t9_6, h9_6, h8_6⟩ := Option.map_eq_some_iff.mp h
    clear h
    subst h8_6
    have h := h9_6
    clear h9_6
    obtain ⟨hi, h⟩ := jx_ite0_inv h
    obtain ⟨hi, h⟩ := jx_ite0_inv h
    obtain ⟨q5, hq, h⟩ := Option.bind_eq_some_iff.mp h
    have f_q5 := jFr.step h0 (f_r_work σ ((σ.1 132) (x2).toNatClampNeg) ((σ.1 131) (x2).toNatClampNeg) σ jFr.rfl q5 hq) (by decide +kernel) (by decide +kernel)
    obtain ⟨hi, h⟩ := jx_ite0_inv h
    obtain ⟨hi, h⟩ := jx_ite0_inv h
    obtain ⟨hi, h⟩ := jx_ite0_inv h
    rcases Classical.em ((((jx_i q5.2 147 ((((1000 : Int32) * x2) + x3)).toNatClampNeg q5.1).1 147) ((((1000 : Int32) * x2) + x3)).toNatClampNeg) = ((q5.2.1 146) ((((1000 : Int32) * x2) + x3)).toNatClampNeg)) with hc | hc
    · rw [if_pos hc] at h
      exact f_r_round_150 σ0 x2 x3 (0 : Int32) x1 (jx_i q5.2 147 ((((1000 : Int32) * x2) + x3)).toNatClampNeg q5.1) (jFr.ia f_q5 (by decide)) _ h
    · rw [if_neg hc] at h
      exact f_r_round_150 σ0 x2 x3 (1 : Int32) x1 (jx_i q5.2 147 ((((1000 : Int32) * x2) + x3)).toNatClampNeg q5.1) (jFr.ia f_q5 (by decide)) _ h
  · rw [if_neg hc] at h
    obtain ⟨hi, h⟩ := jx_ite0_inv h
    obtain ⟨hi, h⟩ := jx_ite0_inv h
    obtain ⟨hi, h⟩ := jx_ite0_inv h
    obtain ⟨hi, h⟩ := jx_ite0_inv h
    have h9 := Option.some.inj h
    subst h9
    exact (jFr.ia h0 (by decide))
theorem f_r_round_42 (σ0 : jx_S) (x1 : Int32) (x2 : Int32) (x3 : Int32) (x4 : Int32) (x5 : Int32) (σ : jx_S) (h0 : jFr ms_r_round fs_r_round σ0 σ) (t : ((Int32 × Int32 × Int32 × jx_S) ⊕ ((Int32 × Int32 × jx_S) ⊕ (Int32 × jx_S)))) (h : p_r_round_42 x1 x2 x3 x4 x5 σ = some t) : fk_r_round_14 σ0 t := by
  refine jx_loop_ok (E := fun s t => jFr ms_r_round fs_r_round σ0 (s.2.2.2.2.2) → fk_r_round_14 σ0 t) (fun s t hs => ?_) _ _ _ h h0
  cases t with
  | inl s1 => exact fun b hb hf => hb (f_r_round_42_s σ0 (s.1) (s.2.1) (s.2.2.1) (s.2.2.2.1) (s.2.2.2.2.1) (s.2.2.2.2.2) hf _ hs)
  | inr b => exact fun hf => f_r_round_42_s σ0 (s.1) (s.2.1) (s.2.2.1) (s.2.2.2.1) (s.2.2.2.2.1) (s.2.2.2.2.2) hf _ hs
theorem f_r_round_14_s (σ0 : jx_S) (x1 : Int32) (x2 : Int32) (x3 : Int32) (σ : jx_S) (h0 : jFr ms_r_round fs_r_round σ0 σ) (t : ((Int32 × Int32 × Int32 × jx_S) ⊕ ((Int32 × Int32 × jx_S) ⊕ (Int32 × jx_S)))) (h : p_r_round_14_s x1 x2 x3 σ = some t) : fk_r_round_14 σ0 t := by
  unfold p_r_round_14_s at h
  obtain ⟨hi, h⟩ := jx_ite0_inv h
  rcases Classical.em (((σ.1 133) (x2).toNatClampNeg) ≤ x3) with hc | hc
  · rw [if_pos hc] at h
    obtain ⟨t9_3, h9_3, h8_3⟩ := Option.map_eq_some_iff.mp h
    clear h
    subst h8_3
    have h := h9_3
    clear h9_3
    have h9 := Option.some.inj h
    subst h9
    exact h0
  · rw [if_neg hc] at h
    obtain ⟨q4, hq, h⟩ := Option.bind_eq_some_iff.mp h
    have f_q4 := jFr.step h0 (f_r_greatest σ x2 σ jFr.rfl q4 hq) (by decide +kernel) (by decide +kernel)
    obtain ⟨hi, h⟩ := jx_ite0_inv h
    exact f_r_round_42 σ0 x1 x2 x3 x3 (((q4.1 127) (x2).toNatClampNeg) - (1 : Int32)) q4 f_q4 _ h
theorem f_r_round_14 (σ0 : jx_S) (x1 : Int32) (x2 : Int32) (x3 : Int32) (σ : jx_S) (h0 : jFr ms_r_round fs_r_round σ0 σ) (t : ((Int32 × Int32 × jx_S) ⊕ (Int32 × jx_S))) (h : p_r_round_14 x1 x2 x3 σ = some t) : fk_r_round_4 σ0 t := by
  refine jx_loop_ok (E := fun s t => jFr ms_r_round fs_r_round σ0 (s.2.2.2) → fk_r_round_4 σ0 t) (fun s t hs => ?_) _ _ _ h h0
  cases t with
  | inl s1 => exact fun b hb hf => hb (f_r_round_14_s σ0 (s.1) (s.2.1) (s.2.2.1) (s.2.2.2) hf _ hs)
  | inr b => exact fun hf => f_r_round_14_s σ0 (s.1) (s.2.1) (s.2.2.1) (s.2.2.2) hf _ hs
theorem f_r_round_4_s (σ0 : jx_S) (x1 : Int32) (x2 : Int32) (σ : jx_S) (h0 : jFr ms_r_round fs_r_round σ0 σ) (t : ((Int32 × Int32 × jx_S) ⊕ (Int32 × jx_S))) (h : p_r_round_4_s x1 x2 σ = some t) : fk_r_round_4 σ0 t := by
  unfold p_r_round_4_s at h
  rcases Classical.em ((σ.1 106 38) ≤ x2) with hc | hc
  · rw [if_pos hc] at h
    obtain ⟨t9_2, h9_2, h8_2⟩ := Option.map_eq_some_iff.mp h
    clear h
    subst h8_2
    have h := h9_2
    clear h9_2
    exact f_r_round_166 σ0 x1 (0 : Int32) σ h0 _ h
  · rw [if_neg hc] at h
    exact f_r_round_14 σ0 x1 x2 (0 : Int32) σ h0 _ h
theorem f_r_round_4 (σ0 : jx_S) (x1 : Int32) (x2 : Int32) (σ : jx_S) (h0 : jFr ms_r_round fs_r_round σ0 σ) (t : (Int32 × jx_S)) (h : p_r_round_4 x1 x2 σ = some t) : fkI ms_r_round fs_r_round σ0 t := by
  refine jx_loop_ok (E := fun s t => jFr ms_r_round fs_r_round σ0 (s.2.2) → fkI ms_r_round fs_r_round σ0 t) (fun s t hs => ?_) _ _ _ h h0
  cases t with
  | inl s1 => exact fun b hb hf => hb (f_r_round_4_s σ0 (s.1) (s.2.1) (s.2.2) hf _ hs)
  | inr b => exact fun hf => f_r_round_4_s σ0 (s.1) (s.2.1) (s.2.2) hf _ hs
theorem f_r_round (σ0 : jx_S) (σ : jx_S) (h0 : jFr ms_r_round fs_r_round σ0 σ) (t : (Int32 × jx_S)) (h : p_r_round σ = some t) : fkI ms_r_round fs_r_round σ0 t := by
  unfold p_r_round at h
  exact f_r_round_4 σ0 (0 : Int32) (0 : Int32) σ h0 _ h
def ms_r_analyse : List Nat := [125, 136, 146, 147, 148, 149]
def fs_r_analyse : List (Nat × Nat) := [(106, 39), (106, 56)]
def fk_r_analyse_2 (σ0 : jx_S) (t : ((Int32 × jx_S) ⊕ jx_S)) : Prop := match t with
  | .inl s => jFr ms_r_analyse fs_r_analyse σ0 (s.2)
  | .inr t => fkV ms_r_analyse fs_r_analyse σ0 t
def fk_r_analyse_35 (σ0 : jx_S) (t : ((Int32 × jx_S) ⊕ jx_S)) : Prop := match t with
  | .inl s => jFr ms_r_analyse fs_r_analyse σ0 (s.2)
  | .inr t => fkV ms_r_analyse fs_r_analyse σ0 t
def fk_r_analyse_49 (σ0 : jx_S) (t : ((Int32 × jx_S) ⊕ jx_S)) : Prop := match t with
  | .inl s => jFr ms_r_analyse fs_r_analyse σ0 (s.2)
  | .inr t => fkV ms_r_analyse fs_r_analyse σ0 t
def fk_r_analyse_59 (σ0 : jx_S) (t : ((Int32 × Int32 × jx_S) ⊕ ((Int32 × jx_S) ⊕ jx_S))) : Prop := match t with
  | .inl s => jFr ms_r_analyse fs_r_analyse σ0 (s.2.2)
  | .inr t => fk_r_analyse_49 σ0 t
def fk_r_analyse_218 (σ0 : jx_S) (t : ((Int32 × Int32 × Int32 × jx_S) ⊕ ((Int32 × jx_S) ⊕ jx_S))) : Prop := match t with
  | .inl s => jFr ms_r_analyse fs_r_analyse σ0 (s.2.2.2)
  | .inr t => fk_r_analyse_49 σ0 t
theorem f_r_analyse_291 (σ0 : jx_S) (x2 : Int32) (x3 : Int32) (x4 : Int32) (σ : jx_S) (h0 : jFr ms_r_analyse fs_r_analyse σ0 σ) (t : ((Int32 × Int32 × Int32 × jx_S) ⊕ ((Int32 × jx_S) ⊕ jx_S))) (h : p_r_analyse_291 x2 x3 x4 σ = some t) : fk_r_analyse_218 σ0 t := by
  unfold p_r_analyse_291 at h
  have h9 := Option.some.inj h
  subst h9
  exact h0
theorem f_r_analyse_290 (σ0 : jx_S) (x2 : Int32) (x3 : Int32) (x4 : Int32) (y0 : Int32) (y1 : Int32) (σ : jx_S) (h0 : jFr ms_r_analyse fs_r_analyse σ0 σ) (t : ((Int32 × Int32 × Int32 × jx_S) ⊕ ((Int32 × jx_S) ⊕ jx_S))) (h : p_r_analyse_290 x2 x3 x4 y0 y1 σ = some t) : fk_r_analyse_218 σ0 t := by
  unfold p_r_analyse_290 at h
  obtain ⟨hi, h⟩ := jx_ite0_inv h
  obtain ⟨hb, h⟩ := jx_ite_inv h
  exact f_r_analyse_291 σ0 x2 x3 x4 (jx_i σ 125 (y1).toNatClampNeg y0) (jFr.ia h0 (by decide)) _ h
theorem f_r_analyse_218_s (σ0 : jx_S) (x2 : Int32) (x3 : Int32) (x4 : Int32) (σ : jx_S) (h0 : jFr ms_r_analyse fs_r_analyse σ0 σ) (t : ((Int32 × Int32 × Int32 × jx_S) ⊕ ((Int32 × jx_S) ⊕ jx_S))) (h : p_r_analyse_218_s x2 x3 x4 σ = some t) : fk_r_analyse_218 σ0 t := by
  unfold p_r_analyse_218_s at h
  rcases Classical.em (x3 ≤ x4) with hc | hc
  · rw [if_pos hc] at h
    obtain ⟨t9_2, h9_2, h8_2⟩ := Option.map_eq_some_iff.mp h
    clear h
    subst h8_2
    have h := h9_2
    clear h9_2
    have h9 := Option.some.inj h
    subst h9
    exact h0
  · rw [if_neg hc] at h
    obtain ⟨hi, h⟩ := jx_ite0_inv h
    rcases Classical.em (¬ ((σ.1 112) (x4).toNatClampNeg) = (5 : Int32)) with hc | hc
    · rw [if_pos hc] at h
      exact f_r_analyse_291 σ0 x2 x3 x4 σ h0 _ h
    · rw [if_neg hc] at h
      obtain ⟨q3, hq, h⟩ := Option.bind_eq_some_iff.mp h
      have f_q3 := jFr.step h0 (f_r_greatest σ x2 σ jFr.rfl q3 hq) (by decide +kernel) (by decide +kernel)
      obtain ⟨hi, h⟩ := jx_ite0_inv h
      obtain ⟨hi, h⟩ := jx_ite0_inv h
      obtain ⟨hi, h⟩ := jx_ite0_inv h
      obtain ⟨hi, h⟩ := jx_ite0_inv h
      obtain ⟨hi, h⟩ := jx_ite0_inv h
      obtain ⟨q4, hq, h⟩ := Option.bind_eq_some_iff.mp h
      have f_q4 := jFr.step (jFr.ia f_q3 (by decide)) (f_r_work (jx_i q3 149 (((q3.1 117) (x4).toNatClampNeg)).toNatClampNeg (0 : Int32)) ((q3.1 121) (((q3.1 115) (x4).toNatClampNeg)).toNatClampNeg) ((q3.1 115) (x4).toNatClampNeg) (jx_i q3 149 (((q3.1 117) (x4).toNatClampNeg)).toNatClampNeg (0 : Int32)) jFr.rfl q4 hq) (by decide +kernel) (by decide +kernel)
      rcases Classical.em (¬ q4.1 = 0) with hc | hc
      · rw [if_pos hc] at h
        exact f_r_analyse_290 σ0 x2 x3 x4 (0 : Int32) x4 q4.2 f_q4 _ h
      · rw [if_neg hc] at h
        exact f_r_analyse_290 σ0 x2 x3 x4 (1 : Int32) x4 q4.2 f_q4 _ h
theorem f_r_analyse_218 (σ0 : jx_S) (x2 : Int32) (x3 : Int32) (x4 : Int32) (σ : jx_S) (h0 : jFr ms_r_analyse fs_r_analyse σ0 σ) (t : ((Int32 × jx_S) ⊕ jx_S)) (h : p_r_analyse_218 x2 x3 x4 σ = some t) : fk_r_analyse_49 σ0 t := by
  refine jx_loop_ok (E := fun s t => jFr ms_r_analyse fs_r_analyse σ0 (s.2.2.2) → fk_r_analyse_49 σ0 t) (fun s t hs => ?_) _ _ _ h h0
  cases t with
  | inl s1 => exact fun b hb hf => hb (f_r_analyse_218_s σ0 (s.1) (s.2.1) (s.2.2.1) (s.2.2.2) hf _ hs)
  | inr b => exact fun hf => f_r_analyse_218_s σ0 (s.1) (s.2.1) (s.2.2.1) (s.2.2.2) hf _ hs
theorem f_r_analyse_209 (σ0 : jx_S) (x2 : Int32) (y0 : Int32) (σ : jx_S) (h0 : jFr ms_r_analyse fs_r_analyse σ0 σ) (t : ((Int32 × jx_S) ⊕ jx_S)) (h : p_r_analyse_209 x2 y0 σ = some t) : fk_r_analyse_49 σ0 t := by
  unfold p_r_analyse_209 at h
  obtain ⟨hi, h⟩ := jx_ite0_inv h
  exact f_r_analyse_218 σ0 x2 y0 ((σ.1 132) (x2).toNatClampNeg) σ h0 _ h
def fk_r_analyse_75 (σ0 : jx_S) (t : ((Int32 × Int32 × Int32 × Int32 × jx_S) ⊕ ((Int32 × Int32 × jx_S) ⊕ ((Int32 × jx_S) ⊕ jx_S)))) : Prop := match t with
  | .inl s => jFr ms_r_analyse fs_r_analyse σ0 (s.2.2.2.2)
  | .inr t => fk_r_analyse_59 σ0 t
theorem f_r_analyse_177 (σ0 : jx_S) (x2 : Int32) (x3 : Int32) (y0 : Int32) (y1 : Int32) (σ : jx_S) (h0 : jFr ms_r_analyse fs_r_analyse σ0 σ) (t : ((Int32 × Int32 × jx_S) ⊕ ((Int32 × jx_S) ⊕ jx_S))) (h : p_r_analyse_177 x2 x3 y0 y1 σ = some t) : fk_r_analyse_59 σ0 t := by
  unfold p_r_analyse_177 at h
  obtain ⟨hi, h⟩ := jx_ite0_inv h
  obtain ⟨hb, h⟩ := jx_ite_inv h
  have h9 := Option.some.inj h
  subst h9
  exact (jFr.ia h0 (by decide))
theorem f_r_analyse_176 (σ0 : jx_S) (x2 : Int32) (x3 : Int32) (y0 : Int32) (σ : jx_S) (h0 : jFr ms_r_analyse fs_r_analyse σ0 σ) (t : ((Int32 × Int32 × jx_S) ⊕ ((Int32 × jx_S) ⊕ jx_S))) (h : p_r_analyse_176 x2 x3 y0 σ = some t) : fk_r_analyse_59 σ0 t := by
  unfold p_r_analyse_176 at h
  exact f_r_analyse_177 σ0 x2 x3 (0 : Int32) y0 σ h0 _ h
theorem f_r_analyse_122 (σ0 : jx_S) (x2 : Int32) (x3 : Int32) (x5 : Int32) (y0 : Int32) (y1 : Int32) (σ : jx_S) (h0 : jFr ms_r_analyse fs_r_analyse σ0 σ) (t : ((Int32 × Int32 × Int32 × Int32 × jx_S) ⊕ ((Int32 × Int32 × jx_S) ⊕ ((Int32 × jx_S) ⊕ jx_S)))) (h : p_r_analyse_122 x2 x3 x5 y0 y1 σ = some t) : fk_r_analyse_75 σ0 t := by
  unfold p_r_analyse_122 at h
  have h9 := Option.some.inj h
  subst h9
  exact h0
theorem f_r_analyse_75_s (σ0 : jx_S) (x2 : Int32) (x3 : Int32) (x4 : Int32) (x5 : Int32) (σ : jx_S) (h0 : jFr ms_r_analyse fs_r_analyse σ0 σ) (t : ((Int32 × Int32 × Int32 × Int32 × jx_S) ⊕ ((Int32 × Int32 × jx_S) ⊕ ((Int32 × jx_S) ⊕ jx_S)))) (h : p_r_analyse_75_s x2 x3 x4 x5 σ = some t) : fk_r_analyse_75 σ0 t := by
  unfold p_r_analyse_75_s at h
  obtain ⟨hi, h⟩ := jx_ite0_inv h
  rcases Classical.em (((σ.1 127) (x2).toNatClampNeg) ≤ x5) with hc | hc
  · rw [if_pos hc] at h
    obtain ⟨t9_6, h9_6, h8_6⟩ := Option.map_eq_some_iff.mp h
    clear h
    subst h8_6
    have h := h9_6
    clear h9_6
    obtain ⟨hi, h⟩ := jx_ite0_inv h
    rcases Classical.em ((2 : Int32) ≤ ((σ.1 135) ((((8 : Int32) * x2) + x3)).toNatClampNeg)) with hc | hc
    · rw [if_pos hc] at h
      exact f_r_analyse_176 σ0 x2 x3 (((8 : Int32) * x2) + x3) σ h0 _ h
    · rw [if_neg hc] at h
      obtain ⟨hi, h⟩ := jx_ite0_inv h
      rcases Classical.em (¬ ((σ.1 146) ((((1000 : Int32) * x2) + x4)).toNatClampNeg) = 0) with hc | hc
      · rw [if_pos hc] at h
        exact f_r_analyse_176 σ0 x2 x3 (((8 : Int32) * x2) + x3) σ h0 _ h
      · rw [if_neg hc] at h
        exact f_r_analyse_177 σ0 x2 x3 (1 : Int32) (((8 : Int32) * x2) + x3) σ h0 _ h
  · rw [if_neg hc] at h
    obtain ⟨hi, h⟩ := jx_ite0_inv h
    rcases Classical.em (¬ x5 = x3) with hc | hc
    · rw [if_pos hc] at h
      exact f_r_analyse_122 σ0 x2 x3 x5 ((v_r_points ((σ.1 135) ((((8 : Int32) * x2) + x5)).toNatClampNeg) σ) - (1 : Int32)) (x4 * (v_r_points ((σ.1 135) ((((8 : Int32) * x2) + x5)).toNatClampNeg) σ)) σ h0 _ h
    · rw [if_neg hc] at h
      exact f_r_analyse_122 σ0 x2 x3 x5 (0 : Int32) (x4 * (v_r_points ((σ.1 135) ((((8 : Int32) * x2) + x5)).toNatClampNeg) σ)) σ h0 _ h
theorem f_r_analyse_75 (σ0 : jx_S) (x2 : Int32) (x3 : Int32) (x4 : Int32) (x5 : Int32) (σ : jx_S) (h0 : jFr ms_r_analyse fs_r_analyse σ0 σ) (t : ((Int32 × Int32 × jx_S) ⊕ ((Int32 × jx_S) ⊕ jx_S))) (h : p_r_analyse_75 x2 x3 x4 x5 σ = some t) : fk_r_analyse_59 σ0 t := by
  refine jx_loop_ok (E := fun s t => jFr ms_r_analyse fs_r_analyse σ0 (s.2.2.2.2) → fk_r_analyse_59 σ0 t) (fun s t hs => ?_) _ _ _ h h0
  cases t with
  | inl s1 => exact fun b hb hf => hb (f_r_analyse_75_s σ0 (s.1) (s.2.1) (s.2.2.1) (s.2.2.2.1) (s.2.2.2.2) hf _ hs)
  | inr b => exact fun hf => f_r_analyse_75_s σ0 (s.1) (s.2.1) (s.2.2.1) (s.2.2.2.1) (s.2.2.2.2) hf _ hs
theorem f_r_analyse_59_s (σ0 : jx_S) (x2 : Int32) (x3 : Int32) (σ : jx_S) (h0 : jFr ms_r_analyse fs_r_analyse σ0 σ) (t : ((Int32 × Int32 × jx_S) ⊕ ((Int32 × jx_S) ⊕ jx_S))) (h : p_r_analyse_59_s x2 x3 σ = some t) : fk_r_analyse_59 σ0 t := by
  unfold p_r_analyse_59_s at h
  obtain ⟨hi, h⟩ := jx_ite0_inv h
  rcases Classical.em (((σ.1 127) (x2).toNatClampNeg) ≤ x3) with hc | hc
  · rw [if_pos hc] at h
    obtain ⟨t9_5, h9_5, h8_5⟩ := Option.map_eq_some_iff.mp h
    clear h
    subst h8_5
    have h := h9_5
    clear h9_5
    rcases Classical.em ((σ.1 106 38) ≤ (x2 + (1 : Int32))) with hc | hc
    · rw [if_pos hc] at h
      exact f_r_analyse_209 σ0 x2 (σ.1 106 25) σ h0 _ h
    · rw [if_neg hc] at h
      obtain ⟨hi, h⟩ := jx_ite0_inv h
      exact f_r_analyse_209 σ0 x2 ((σ.1 132) ((x2 + (1 : Int32))).toNatClampNeg) σ h0 _ h
  · rw [if_neg hc] at h
    exact f_r_analyse_75 σ0 x2 x3 (0 : Int32) (0 : Int32) σ h0 _ h
theorem f_r_analyse_59 (σ0 : jx_S) (x2 : Int32) (x3 : Int32) (σ : jx_S) (h0 : jFr ms_r_analyse fs_r_analyse σ0 σ) (t : ((Int32 × jx_S) ⊕ jx_S)) (h : p_r_analyse_59 x2 x3 σ = some t) : fk_r_analyse_49 σ0 t := by
  refine jx_loop_ok (E := fun s t => jFr ms_r_analyse fs_r_analyse σ0 (s.2.2) → fk_r_analyse_49 σ0 t) (fun s t hs => ?_) _ _ _ h h0
  cases t with
  | inl s1 => exact fun b hb hf => hb (f_r_analyse_59_s σ0 (s.1) (s.2.1) (s.2.2) hf _ hs)
  | inr b => exact fun hf => f_r_analyse_59_s σ0 (s.1) (s.2.1) (s.2.2) hf _ hs
theorem f_r_analyse_49_s (σ0 : jx_S) (x2 : Int32) (σ : jx_S) (h0 : jFr ms_r_analyse fs_r_analyse σ0 σ) (t : ((Int32 × jx_S) ⊕ jx_S)) (h : p_r_analyse_49_s x2 σ = some t) : fk_r_analyse_49 σ0 t := by
  unfold p_r_analyse_49_s at h
  rcases Classical.em ((σ.1 106 38) ≤ x2) with hc | hc
  · rw [if_pos hc] at h
    obtain ⟨t9_1, h9_1, h8_1⟩ := Option.map_eq_some_iff.mp h
    clear h
    subst h8_1
    have h := h9_1
    clear h9_1
    have h9 := Option.some.inj h
    subst h9
    exact h0
  · rw [if_neg hc] at h
    exact f_r_analyse_59 σ0 x2 (0 : Int32) σ h0 _ h
theorem f_r_analyse_49 (σ0 : jx_S) (x2 : Int32) (σ : jx_S) (h0 : jFr ms_r_analyse fs_r_analyse σ0 σ) (t : jx_S) (h : p_r_analyse_49 x2 σ = some t) : fkV ms_r_analyse fs_r_analyse σ0 t := by
  refine jx_loop_ok (E := fun s t => jFr ms_r_analyse fs_r_analyse σ0 (s.2) → fkV ms_r_analyse fs_r_analyse σ0 t) (fun s t hs => ?_) _ _ _ h h0
  cases t with
  | inl s1 => exact fun b hb hf => hb (f_r_analyse_49_s σ0 (s.1) (s.2) hf _ hs)
  | inr b => exact fun hf => f_r_analyse_49_s σ0 (s.1) (s.2) hf _ hs
theorem f_r_analyse_35_s (σ0 : jx_S) (x1 : Int32) (σ : jx_S) (h0 : jFr ms_r_analyse fs_r_analyse σ0 σ) (t : ((Int32 × jx_S) ⊕ jx_S)) (h : p_r_analyse_35_s x1 σ = some t) : fk_r_analyse_35 σ0 t := by
  unfold p_r_analyse_35_s at h
  rcases Classical.em (x1 = 0) with hc | hc
  · rw [if_pos hc] at h
    obtain ⟨t9_7, h9_7, h8_7⟩ := Option.map_eq_some_iff.mp h
    clear h
    subst h8_7
    have h := h9_7
    clear h9_7
    exact f_r_analyse_49 σ0 (0 : Int32) σ h0 _ h
  · rw [if_neg hc] at h
    obtain ⟨q8, hq, h⟩ := Option.bind_eq_some_iff.mp h
    have f_q8 := jFr.step h0 (f_r_round σ σ jFr.rfl q8 hq) (by decide +kernel) (by decide +kernel)
    have h9 := Option.some.inj h
    subst h9
    exact f_q8
theorem f_r_analyse_35 (σ0 : jx_S) (x1 : Int32) (σ : jx_S) (h0 : jFr ms_r_analyse fs_r_analyse σ0 σ) (t : jx_S) (h : p_r_analyse_35 x1 σ = some t) : fkV ms_r_analyse fs_r_analyse σ0 t := by
  refine jx_loop_ok (E := fun s t => jFr ms_r_analyse fs_r_analyse σ0 (s.2) → fkV ms_r_analyse fs_r_analyse σ0 t) (fun s t hs => ?_) _ _ _ h h0
  cases t with
  | inl s1 => exact fun b hb hf => hb (f_r_analyse_35_s σ0 (s.1) (s.2) hf _ hs)
  | inr b => exact fun hf => f_r_analyse_35_s σ0 (s.1) (s.2) hf _ hs
theorem f_r_analyse_2_s (σ0 : jx_S) (x1 : Int32) (σ : jx_S) (h0 : jFr ms_r_analyse fs_r_analyse σ0 σ) (t : ((Int32 × jx_S) ⊕ jx_S)) (h : p_r_analyse_2_s x1 σ = some t) : fk_r_analyse_2 σ0 t := by
  unfold p_r_analyse_2_s at h
  rcases Classical.em ((40000 : Int32) ≤ x1) with hc | hc
  · rw [if_pos hc] at h
    obtain ⟨t9_9, h9_9, h8_9⟩ := Option.map_eq_some_iff.mp h
    clear h
    subst h8_9
    have h := h9_9
    clear h9_9
    exact f_r_analyse_35 σ0 (1 : Int32) (jx_i σ 106 39 (0 : Int32)) (jFr.i h0 (by decide)) _ h
  · rw [if_neg hc] at h
    obtain ⟨hi, h⟩ := jx_ite0_inv h
    obtain ⟨hi, h⟩ := jx_ite0_inv h
    have h9 := Option.some.inj h
    subst h9
    exact (jFr.ia (jFr.ia h0 (by decide)) (by decide))
theorem f_r_analyse_2 (σ0 : jx_S) (x1 : Int32) (σ : jx_S) (h0 : jFr ms_r_analyse fs_r_analyse σ0 σ) (t : jx_S) (h : p_r_analyse_2 x1 σ = some t) : fkV ms_r_analyse fs_r_analyse σ0 t := by
  refine jx_loop_ok (E := fun s t => jFr ms_r_analyse fs_r_analyse σ0 (s.2) → fkV ms_r_analyse fs_r_analyse σ0 t) (fun s t hs => ?_) _ _ _ h h0
  cases t with
  | inl s1 => exact fun b hb hf => hb (f_r_analyse_2_s σ0 (s.1) (s.2) hf _ hs)
  | inr b => exact fun hf => f_r_analyse_2_s σ0 (s.1) (s.2) hf _ hs
theorem f_r_analyse (σ0 : jx_S) (σ : jx_S) (h0 : jFr ms_r_analyse fs_r_analyse σ0 σ) (t : jx_S) (h : p_r_analyse σ = some t) : fkV ms_r_analyse fs_r_analyse σ0 t := by
  unfold p_r_analyse at h
  exact f_r_analyse_2 σ0 (0 : Int32) σ h0 _ h
def ms_r_compile : List Nat := [108, 109, 110, 111, 112, 113, 114, 115, 116, 117, 118, 119, 120, 121, 122, 123, 124, 125, 126, 127, 128, 129, 130, 131, 132, 133, 134, 135, 136, 137, 138, 139, 140, 141, 142, 143, 144, 145, 146, 147, 148, 149]
def fs_r_compile : List (Nat × Nat) := [(106, 2), (106, 3), (106, 4), (106, 5), (106, 10), (106, 25), (106, 38), (106, 39), (106, 40), (106, 41), (106, 45), (106, 47), (106, 48), (106, 49), (106, 52), (106, 55), (106, 56)]
theorem f_r_compile_66 (σ0 : jx_S) (y0 : Int32) (σ : jx_S) (h0 : jFr ms_r_compile fs_r_compile σ0 σ) (t : (Int32 × jx_S)) (h : p_r_compile_66 y0 σ = some t) : fkI ms_r_compile fs_r_compile σ0 t := by
  unfold p_r_compile_66 at h
  obtain ⟨hb, h⟩ := jx_ite_inv h
  rcases Classical.em (¬ y0 = 0) with hc | hc
  · rw [if_pos hc] at h
    obtain ⟨q2, hq, h⟩ := Option.bind_eq_some_iff.mp h
    have f_q2 := jFr.step (jFr.i h0 (by decide)) (f_r_analyse (jx_i σ 106 3 y0) (jx_i σ 106 3 y0) jFr.rfl q2 hq) (by decide +kernel) (by decide +kernel)
    have h9 := Option.some.inj h
    subst h9
    exact f_q2
  · rw [if_neg hc] at h
    have h9 := Option.some.inj h
    subst h9
    exact (jFr.i (jFr.i h0 (by decide)) (by decide))
theorem f_r_compile_65 (σ0 : jx_S) (σ : jx_S) (h0 : jFr ms_r_compile fs_r_compile σ0 σ) (t : (Int32 × jx_S)) (h : p_r_compile_65 σ = some t) : fkI ms_r_compile fs_r_compile σ0 t := by
  unfold p_r_compile_65 at h
  exact f_r_compile_66 σ0 (0 : Int32) σ h0 _ h
theorem f_r_compile (σ0 : jx_S) (σ : jx_S) (h0 : jFr ms_r_compile fs_r_compile σ0 σ) (t : (Int32 × jx_S)) (h : p_r_compile σ = some t) : fkI ms_r_compile fs_r_compile σ0 t := by
  unfold p_r_compile at h
  obtain ⟨q1, hq, h⟩ := Option.bind_eq_some_iff.mp h
  have f_q1 := jFr.step (jFr.i (jFr.i (jFr.i (jFr.i (jFr.i h0 (by decide)) (by decide)) (by decide)) (by decide)) (by decide)) (f_r_scan (jx_i (jx_i (jx_i (jx_i (jx_i σ 106 2 (0 : Int32)) 106 4 (0 : Int32)) 106 5 (-1 : Int32)) 106 38 (0 : Int32)) 106 39 (0 : Int32)) (jx_i (jx_i (jx_i (jx_i (jx_i σ 106 2 (0 : Int32)) 106 4 (0 : Int32)) 106 5 (-1 : Int32)) 106 38 (0 : Int32)) 106 39 (0 : Int32)) jFr.rfl q1 hq) (by decide +kernel) (by decide +kernel)
  rcases Classical.em (q1.1 = 0) with hc | hc
  · rw [if_pos hc] at h
    exact f_r_compile_65 σ0 q1.2 f_q1 _ h
  · rw [if_neg hc] at h
    obtain ⟨q3, hq, h⟩ := Option.bind_eq_some_iff.mp h
    have f_q3 := jFr.step f_q1 (f_r_readAll q1.2 q1.2 jFr.rfl q3 hq) (by decide +kernel) (by decide +kernel)
    rcases Classical.em (q3.1 = 0) with hc | hc
    · rw [if_pos hc] at h
      exact f_r_compile_65 σ0 q3.2 f_q3 _ h
    · rw [if_neg hc] at h
      obtain ⟨q4, hq, h⟩ := Option.bind_eq_some_iff.mp h
      have f_q4 := jFr.step f_q3 (f_r_sameNames q3.2 q3.2 jFr.rfl q4 hq) (by decide +kernel) (by decide +kernel)
      rcases Classical.em (q4.1 = 0) with hc | hc
      · rw [if_pos hc] at h
        exact f_r_compile_65 σ0 q4.2 f_q4 _ h
      · rw [if_neg hc] at h
        obtain ⟨q5, hq, h⟩ := Option.bind_eq_some_iff.mp h
        have f_q5 := jFr.step f_q4 (f_r_types q4.2 q4.2 jFr.rfl q5 hq) (by decide +kernel) (by decide +kernel)
        rcases Classical.em (q5.1 = 0) with hc | hc
        · rw [if_pos hc] at h
          exact f_r_compile_65 σ0 q5.2 f_q5 _ h
        · rw [if_neg hc] at h
          obtain ⟨q6, hq, h⟩ := Option.bind_eq_some_iff.mp h
          have f_q6 := jFr.step f_q5 (f_r_countCases q5.2 q5.2 jFr.rfl q6 hq) (by decide +kernel) (by decide +kernel)
          rcases Classical.em (q6.1 = 0) with hc | hc
          · rw [if_pos hc] at h
            exact f_r_compile_65 σ0 q6.2 f_q6 _ h
          · rw [if_neg hc] at h
            exact f_r_compile_66 σ0 (1 : Int32) q6.2 f_q6 _ h
def ms_r_place : List Nat := []
def fs_r_place : List (Nat × Nat) := [(106, 2)]
theorem f_r_place (σ0 : jx_S) (σ : jx_S) (h0 : jFr ms_r_place fs_r_place σ0 σ) (t : (Int32 × jx_S)) (h : p_r_place σ = some t) : fkI ms_r_place fs_r_place σ0 t := by
  unfold p_r_place at h
  have h9 := Option.some.inj h
  subst h9
  exact (jFr.i h0 (by decide))
def ms_r_functions : List Nat := []
def fs_r_functions : List (Nat × Nat) := [(106, 2)]
theorem f_r_functions (σ0 : jx_S) (σ : jx_S) (h0 : jFr ms_r_functions fs_r_functions σ0 σ) (t : (Int32 × jx_S)) (h : p_r_functions σ = some t) : fkI ms_r_functions fs_r_functions σ0 t := by
  unfold p_r_functions at h
  have h9 := Option.some.inj h
  subst h9
  exact (jFr.i h0 (by decide))
def ms_r_function2 : List Nat := []
def fs_r_function2 : List (Nat × Nat) := [(106, 2)]
def fk_r_function2_73 (σ0 : jx_S) (t : ((Int32 × Int32 × Int32 × Int32 × Int32 × jx_S) ⊕ (Int32 × jx_S))) : Prop := match t with
  | .inl s => jFr ms_r_function2 fs_r_function2 σ0 (s.2.2.2.2.2)
  | .inr t => fkI ms_r_function2 fs_r_function2 σ0 t
theorem f_r_function2_107 (σ0 : jx_S) (x1 : Int32) (x2 : Int32) (x4 : Int32) (x5 : Int32) (y0 : Int32) (y1 : Int32) (σ : jx_S) (h0 : jFr ms_r_function2 fs_r_function2 σ0 σ) (t : ((Int32 × Int32 × Int32 × Int32 × Int32 × jx_S) ⊕ (Int32 × jx_S))) (h : p_r_function2_107 x1 x2 x4 x5 y0 y1 σ = some t) : fk_r_function2_73 σ0 t := by
  unfold p_r_function2_107 at h
  have h9 := Option.some.inj h
  subst h9
  exact h0
theorem f_r_function2_106 (σ0 : jx_S) (x1 : Int32) (x2 : Int32) (x4 : Int32) (x5 : Int32) (y0 : Int32) (σ : jx_S) (h0 : jFr ms_r_function2 fs_r_function2 σ0 σ) (t : ((Int32 × Int32 × Int32 × Int32 × Int32 × jx_S) ⊕ (Int32 × jx_S))) (h : p_r_function2_106 x1 x2 x4 x5 y0 σ = some t) : fk_r_function2_73 σ0 t := by
  unfold p_r_function2_106 at h
  exact f_r_function2_107 σ0 x1 x2 x4 x5 (0 : Int32) y0 σ h0 _ h
theorem f_r_function2_73_s (σ0 : jx_S) (x1 : Int32) (x2 : Int32) (x3 : Int32) (x4 : Int32) (x5 : Int32) (σ : jx_S) (h0 : jFr ms_r_function2 fs_r_function2 σ0 σ) (t : ((Int32 × Int32 × Int32 × Int32 × Int32 × jx_S) ⊕ (Int32 × jx_S))) (h : p_r_function2_73_s x1 x2 x3 x4 x5 σ = some t) : fk_r_function2_73 σ0 t := by
  unfold p_r_function2_73_s at h
  rcases Classical.em (x4 ≤ x5) with hc | hc
  · rw [if_pos hc] at h
    obtain ⟨t9_1, h9_1, h8_1⟩ := Option.map_eq_some_iff.mp h
    clear h
    subst h8_1
    have h := h9_1
    clear h9_1
    rcases Classical.em (x2 = 0) with hc0 | hc0
    · rw [if_pos hc0] at h
      obtain ⟨hi, h⟩ := jx_ite0_inv h
      have h9 := Option.some.inj h
      subst h9
      exact h0
    · rw [if_neg hc0] at h
      rcases Classical.em (x2 = 1) with hc1 | hc1
      · rw [if_pos hc1] at h
        obtain ⟨hi, h⟩ := jx_ite0_inv h
        have h9 := Option.some.inj h
        subst h9
        exact h0
      · rw [if_neg hc1] at h
        rcases Classical.em (x2 = 2) with hc2 | hc2
        · rw [if_pos hc2] at h
          obtain ⟨hi, h⟩ := jx_ite0_inv h
          have h9 := Option.some.inj h
          subst h9
          exact h0
        · rw [if_neg hc2] at h
          rcases Classical.em (x2 = 3) with hc3 | hc3
          · rw [if_pos hc3] at h
            obtain ⟨hi, h⟩ := jx_ite0_inv h
            have h9 := Option.some.inj h
            subst h9
            exact h0
          · rw [if_neg hc3] at h
            rcases Classical.em (x2 = 4) with hc4 | hc4
            · rw [if_pos hc4] at h
              obtain ⟨hi, h⟩ := jx_ite0_inv h
              have h9 := Option.some.inj h
              subst h9
              exact h0
            · rw [if_neg hc4] at h
              rcases Classical.em (x2 = 5) with hc5 | hc5
              · rw [if_pos hc5] at h
                have h9 := Option.some.inj h
                subst h9
                exact h0
              · rw [if_neg hc5] at h
                obtain ⟨hi, h⟩ := jx_ite0_inv h
                obtain ⟨hi, h⟩ := jx_ite0_inv h
                have h9 := Option.some.inj h
                subst h9
                exact h0
  · rw [if_neg hc] at h
    obtain ⟨hi, h⟩ := jx_ite0_inv h
    rcases Classical.em (¬ ((σ.1 112) (x5).toNatClampNeg) = (5 : Int32)) with hc | hc
    · rw [if_pos hc] at h
      exact f_r_function2_106 σ0 x1 x2 x4 x5 x3 σ h0 _ h
    · rw [if_neg hc] at h
      obtain ⟨hi, h⟩ := jx_ite0_inv h
      rcases Classical.em (((σ.1 125) (x5).toNatClampNeg) = 0) with hc | hc
      · rw [if_pos hc] at h
        exact f_r_function2_106 σ0 x1 x2 x4 x5 x3 σ h0 _ h
      · rw [if_neg hc] at h
        exact f_r_function2_107 σ0 x1 x2 x4 x5 (1 : Int32) x3 σ h0 _ h
theorem f_r_function2_73 (σ0 : jx_S) (x1 : Int32) (x2 : Int32) (x3 : Int32) (x4 : Int32) (x5 : Int32) (σ : jx_S) (h0 : jFr ms_r_function2 fs_r_function2 σ0 σ) (t : (Int32 × jx_S)) (h : p_r_function2_73 x1 x2 x3 x4 x5 σ = some t) : fkI ms_r_function2 fs_r_function2 σ0 t := by
  refine jx_loop_ok (E := fun s t => jFr ms_r_function2 fs_r_function2 σ0 (s.2.2.2.2.2) → fkI ms_r_function2 fs_r_function2 σ0 t) (fun s t hs => ?_) _ _ _ h h0
  cases t with
  | inl s1 => exact fun b hb hf => hb (f_r_function2_73_s σ0 (s.1) (s.2.1) (s.2.2.1) (s.2.2.2.1) (s.2.2.2.2.1) (s.2.2.2.2.2) hf _ hs)
  | inr b => exact fun hf => f_r_function2_73_s σ0 (s.1) (s.2.1) (s.2.2.1) (s.2.2.2.1) (s.2.2.2.2.1) (s.2.2.2.2.2) hf _ hs
theorem f_r_function2_63 (σ0 : jx_S) (x1 : Int32) (x2 : Int32) (x3 : Int32) (y0 : Int32) (σ : jx_S) (h0 : jFr ms_r_function2 fs_r_function2 σ0 σ) (t : (Int32 × jx_S)) (h : p_r_function2_63 x1 x2 x3 y0 σ = some t) : fkI ms_r_function2 fs_r_function2 σ0 t := by
  unfold p_r_function2_63 at h
  obtain ⟨hi, h⟩ := jx_ite0_inv h
  exact f_r_function2_73 σ0 x1 x2 x3 y0 ((σ.1 132) (x1).toNatClampNeg) σ h0 _ h
theorem f_r_function2_24 (σ0 : jx_S) (x1 : Int32) (x2 : Int32) (y0 : Int32) (σ : jx_S) (h0 : jFr ms_r_function2 fs_r_function2 σ0 σ) (t : (Int32 × jx_S)) (h : p_r_function2_24 x1 x2 y0 σ = some t) : fkI ms_r_function2 fs_r_function2 σ0 t := by
  unfold p_r_function2_24 at h
  rcases Classical.em (y0 ≤ 0) with hc | hc
  · rw [if_pos hc] at h
    rcases Classical.em ((σ.1 106 38) ≤ (x1 + (1 : Int32))) with hc | hc
    · rw [if_pos hc] at h
      exact f_r_function2_63 σ0 x1 x2 (0 : Int32) (σ.1 106 25) (jx_i σ 106 2 y0) (jFr.i h0 (by decide)) _ h
    · rw [if_neg hc] at h
      obtain ⟨hi, h⟩ := jx_ite0_inv h
      exact f_r_function2_63 σ0 x1 x2 (0 : Int32) ((σ.1 132) ((x1 + (1 : Int32))).toNatClampNeg) (jx_i σ 106 2 y0) (jFr.i h0 (by decide)) _ h
  · rw [if_neg hc] at h
    have h9 := Option.some.inj h
    subst h9
    exact (jFr.i h0 (by decide))
theorem f_r_function2_19 (σ0 : jx_S) (x1 : Int32) (x2 : Int32) (σ : jx_S) (h0 : jFr ms_r_function2 fs_r_function2 σ0 σ) (t : (Int32 × jx_S)) (h : p_r_function2_19 x1 x2 σ = some t) : fkI ms_r_function2 fs_r_function2 σ0 t := by
  unfold p_r_function2_19 at h
  exact f_r_function2_24 σ0 x1 x2 (1 : Int32) σ h0 _ h
theorem f_r_function2 (σ0 : jx_S) (x1 : Int32) (x2 : Int32) (σ : jx_S) (h0 : jFr ms_r_function2 fs_r_function2 σ0 σ) (t : (Int32 × jx_S)) (h : p_r_function2 x1 x2 σ = some t) : fkI ms_r_function2 fs_r_function2 σ0 t := by
  unfold p_r_function2 at h
  rcases Classical.em (¬ (v_r_noFunction x1 σ) = 0) with hc | hc
  · rw [if_pos hc] at h
    exact f_r_function2_19 σ0 x1 x2 σ h0 _ h
  · rw [if_neg hc] at h
    rcases Classical.em (x2 < 0) with hc | hc
    · rw [if_pos hc] at h
      exact f_r_function2_19 σ0 x1 x2 σ h0 _ h
    · rw [if_neg hc] at h
      rcases Classical.em (x2 ≤ (6 : Int32)) with hc | hc
      · rw [if_pos hc] at h
        exact f_r_function2_24 σ0 x1 x2 (0 : Int32) σ h0 _ h
      · rw [if_neg hc] at h
        exact f_r_function2_19 σ0 x1 x2 σ h0 _ h
def ms_r_parameter3 : List Nat := []
def fs_r_parameter3 : List (Nat × Nat) := [(106, 2)]
theorem f_r_parameter3_37 (σ0 : jx_S) (x1 : Int32) (x2 : Int32) (x3 : Int32) (y0 : Int32) (σ : jx_S) (h0 : jFr ms_r_parameter3 fs_r_parameter3 σ0 σ) (t : (Int32 × jx_S)) (h : p_r_parameter3_37 x1 x2 x3 y0 σ = some t) : fkI ms_r_parameter3 fs_r_parameter3 σ0 t := by
  unfold p_r_parameter3_37 at h
  rcases Classical.em (y0 ≤ 0) with hc | hc
  · rw [if_pos hc] at h
    rcases Classical.em (¬ x3 = 0) with hc | hc
    · rw [if_pos hc] at h
      obtain ⟨hi, h⟩ := jx_ite0_inv h
      rcases Classical.em (((σ.1 136) ((((8 : Int32) * x1) + x2)).toNatClampNeg) = 0) with hc | hc
      · rw [if_pos hc] at h
        have h9 := Option.some.inj h
        subst h9
        exact (jFr.i h0 (by decide))
      · rw [if_neg hc] at h
        have h9 := Option.some.inj h
        subst h9
        exact (jFr.i h0 (by decide))
    · rw [if_neg hc] at h
      obtain ⟨hi, h⟩ := jx_ite0_inv h
      have h9 := Option.some.inj h
      subst h9
      exact (jFr.i h0 (by decide))
  · rw [if_neg hc] at h
    have h9 := Option.some.inj h
    subst h9
    exact (jFr.i h0 (by decide))
theorem f_r_parameter3_32 (σ0 : jx_S) (x1 : Int32) (x2 : Int32) (x3 : Int32) (σ : jx_S) (h0 : jFr ms_r_parameter3 fs_r_parameter3 σ0 σ) (t : (Int32 × jx_S)) (h : p_r_parameter3_32 x1 x2 x3 σ = some t) : fkI ms_r_parameter3 fs_r_parameter3 σ0 t := by
  unfold p_r_parameter3_32 at h
  exact f_r_parameter3_37 σ0 x1 x2 x3 (1 : Int32) σ h0 _ h
theorem f_r_parameter3 (σ0 : jx_S) (x1 : Int32) (x2 : Int32) (x3 : Int32) (σ : jx_S) (h0 : jFr ms_r_parameter3 fs_r_parameter3 σ0 σ) (t : (Int32 × jx_S)) (h : p_r_parameter3 x1 x2 x3 σ = some t) : fkI ms_r_parameter3 fs_r_parameter3 σ0 t := by
  unfold p_r_parameter3 at h
  rcases Classical.em (¬ (v_r_noFunction x1 σ) = 0) with hc | hc
  · rw [if_pos hc] at h
    exact f_r_parameter3_32 σ0 x1 x2 x3 σ h0 _ h
  · rw [if_neg hc] at h
    rcases Classical.em (x2 < 0) with hc | hc
    · rw [if_pos hc] at h
      exact f_r_parameter3_32 σ0 x1 x2 x3 σ h0 _ h
    · rw [if_neg hc] at h
      obtain ⟨hi, h⟩ := jx_ite0_inv h
      rcases Classical.em (((σ.1 127) (x1).toNatClampNeg) ≤ x2) with hc | hc
      · rw [if_pos hc] at h
        exact f_r_parameter3_32 σ0 x1 x2 x3 σ h0 _ h
      · rw [if_neg hc] at h
        rcases Classical.em (x3 < 0) with hc | hc
        · rw [if_pos hc] at h
          exact f_r_parameter3_32 σ0 x1 x2 x3 σ h0 _ h
        · rw [if_neg hc] at h
          rcases Classical.em (x3 ≤ (1 : Int32)) with hc | hc
          · rw [if_pos hc] at h
            exact f_r_parameter3_37 σ0 x1 x2 x3 (0 : Int32) σ h0 _ h
          · rw [if_neg hc] at h
            exact f_r_parameter3_32 σ0 x1 x2 x3 σ h0 _ h
def ms_r_value : List Nat := []
def fs_r_value : List (Nat × Nat) := [(106, 2)]
theorem f_r_value_28 (σ0 : jx_S) (x1 : Int32) (x2 : Int32) (y0 : Int32) (σ : jx_S) (h0 : jFr ms_r_value fs_r_value σ0 σ) (t : (Int32 × jx_S)) (h : p_r_value_28 x1 x2 y0 σ = some t) : fkI ms_r_value fs_r_value σ0 t := by
  unfold p_r_value_28 at h
  rcases Classical.em (y0 ≤ 0) with hc | hc
  · rw [if_pos hc] at h
    obtain ⟨hi, h⟩ := jx_ite0_inv h
    have h9 := Option.some.inj h
    subst h9
    exact (jFr.i h0 (by decide))
  · rw [if_neg hc] at h
    have h9 := Option.some.inj h
    subst h9
    exact (jFr.i h0 (by decide))
theorem f_r_value_23 (σ0 : jx_S) (x1 : Int32) (x2 : Int32) (σ : jx_S) (h0 : jFr ms_r_value fs_r_value σ0 σ) (t : (Int32 × jx_S)) (h : p_r_value_23 x1 x2 σ = some t) : fkI ms_r_value fs_r_value σ0 t := by
  unfold p_r_value_23 at h
  exact f_r_value_28 σ0 x1 x2 (1 : Int32) σ h0 _ h
theorem f_r_value (σ0 : jx_S) (x1 : Int32) (x2 : Int32) (σ : jx_S) (h0 : jFr ms_r_value fs_r_value σ0 σ) (t : (Int32 × jx_S)) (h : p_r_value x1 x2 σ = some t) : fkI ms_r_value fs_r_value σ0 t := by
  unfold p_r_value at h
  rcases Classical.em (¬ (v_r_noFunction x1 σ) = 0) with hc | hc
  · rw [if_pos hc] at h
    exact f_r_value_23 σ0 x1 x2 σ h0 _ h
  · rw [if_neg hc] at h
    rcases Classical.em (x2 < 0) with hc | hc
    · rw [if_pos hc] at h
      exact f_r_value_23 σ0 x1 x2 σ h0 _ h
    · rw [if_neg hc] at h
      obtain ⟨hi, h⟩ := jx_ite0_inv h
      rcases Classical.em (x2 < ((σ.1 133) (x1).toNatClampNeg)) with hc | hc
      · rw [if_pos hc] at h
        exact f_r_value_28 σ0 x1 x2 (0 : Int32) σ h0 _ h
      · rw [if_neg hc] at h
        exact f_r_value_23 σ0 x1 x2 σ h0 _ h
def ms_r_rounds : List Nat := []
def fs_r_rounds : List (Nat × Nat) := [(106, 2)]
theorem f_r_rounds (σ0 : jx_S) (σ : jx_S) (h0 : jFr ms_r_rounds fs_r_rounds σ0 σ) (t : (Int32 × jx_S)) (h : p_r_rounds σ = some t) : fkI ms_r_rounds fs_r_rounds σ0 t := by
  unfold p_r_rounds at h
  have h9 := Option.some.inj h
  subst h9
  exact (jFr.i h0 (by decide))
def ms_r_isStrict : List Nat := []
def fs_r_isStrict : List (Nat × Nat) := [(106, 2)]
def fk_r_isStrict_7 (σ0 : jx_S) (t : ((Int32 × Int32 × jx_S) ⊕ (Int32 × jx_S))) : Prop := match t with
  | .inl s => jFr ms_r_isStrict fs_r_isStrict σ0 (s.2.2)
  | .inr t => fkI ms_r_isStrict fs_r_isStrict σ0 t
theorem f_r_isStrict_62 (σ0 : jx_S) (x1 : Int32) (x2 : Int32) (σ : jx_S) (h0 : jFr ms_r_isStrict fs_r_isStrict σ0 σ) (t : ((Int32 × Int32 × jx_S) ⊕ (Int32 × jx_S))) (h : p_r_isStrict_62 x1 x2 σ = some t) : fk_r_isStrict_7 σ0 t := by
  unfold p_r_isStrict_62 at h
  have h9 := Option.some.inj h
  subst h9
  exact h0
theorem f_r_isStrict_7_s (σ0 : jx_S) (x1 : Int32) (x2 : Int32) (σ : jx_S) (h0 : jFr ms_r_isStrict fs_r_isStrict σ0 σ) (t : ((Int32 × Int32 × jx_S) ⊕ (Int32 × jx_S))) (h : p_r_isStrict_7_s x1 x2 σ = some t) : fk_r_isStrict_7 σ0 t := by
  unfold p_r_isStrict_7_s at h
  rcases Classical.em ((σ.1 106 25) ≤ x2) with hc | hc
  · rw [if_pos hc] at h
    obtain ⟨t9_1, h9_1, h8_1⟩ := Option.map_eq_some_iff.mp h
    clear h
    subst h8_1
    have h := h9_1
    clear h9_1
    have h9 := Option.some.inj h
    subst h9
    exact h0
  · rw [if_neg hc] at h
    rcases Classical.em ((σ.1 106 3) = 0) with hc | hc
    · rw [if_pos hc] at h
      obtain ⟨t9_2, h9_2, h8_2⟩ := Option.map_eq_some_iff.mp h
      clear h
      subst h8_2
      have h := h9_2
      clear h9_2
      have h9 := Option.some.inj h
      subst h9
      exact h0
    · rw [if_neg hc] at h
      obtain ⟨hi, h⟩ := jx_ite0_inv h
      rcases Classical.em (¬ ((σ.1 112) (x2).toNatClampNeg) = (5 : Int32)) with hc | hc
      · rw [if_pos hc] at h
        exact f_r_isStrict_62 σ0 x1 x2 σ h0 _ h
      · rw [if_neg hc] at h
        obtain ⟨hi, h⟩ := jx_ite0_inv h
        obtain ⟨hi, h⟩ := jx_ite0_inv h
        rcases Classical.em (¬ ((σ.1 109) (((σ.1 113) (x2).toNatClampNeg)).toNatClampNeg) = x1) with hc | hc
        · rw [if_pos hc] at h
          exact f_r_isStrict_62 σ0 x1 x2 σ h0 _ h
        · rw [if_neg hc] at h
          obtain ⟨t9_3, h9_3, h8_3⟩ := Option.map_eq_some_iff.mp h
          clear h
          subst h8_3
          have h := h9_3
          clear h9_3
          obtain ⟨hi, h⟩ := jx_ite0_inv h
          rcases Classical.em (((σ.1 125) (x2).toNatClampNeg) = 0) with hc | hc
          · rw [if_pos hc] at h
            have h9 := Option.some.inj h
            subst h9
            exact h0
          · rw [if_neg hc] at h
            have h9 := Option.some.inj h
            subst h9
            exact h0
theorem f_r_isStrict_7 (σ0 : jx_S) (x1 : Int32) (x2 : Int32) (σ : jx_S) (h0 : jFr ms_r_isStrict fs_r_isStrict σ0 σ) (t : (Int32 × jx_S)) (h : p_r_isStrict_7 x1 x2 σ = some t) : fkI ms_r_isStrict fs_r_isStrict σ0 t := by
  refine jx_loop_ok (E := fun s t => jFr ms_r_isStrict fs_r_isStrict σ0 (s.2.2) → fkI ms_r_isStrict fs_r_isStrict σ0 t) (fun s t hs => ?_) _ _ _ h h0
  cases t with
  | inl s1 => exact fun b hb hf => hb (f_r_isStrict_7_s σ0 (s.1) (s.2.1) (s.2.2) hf _ hs)
  | inr b => exact fun hf => f_r_isStrict_7_s σ0 (s.1) (s.2.1) (s.2.2) hf _ hs
theorem f_r_isStrict (σ0 : jx_S) (x1 : Int32) (σ : jx_S) (h0 : jFr ms_r_isStrict fs_r_isStrict σ0 σ) (t : (Int32 × jx_S)) (h : p_r_isStrict x1 σ = some t) : fkI ms_r_isStrict fs_r_isStrict σ0 t := by
  unfold p_r_isStrict at h
  exact f_r_isStrict_7 σ0 x1 (0 : Int32) (jx_i σ 106 2 (0 : Int32)) (jFr.i h0 (by decide)) _ h
def ms_r_begin : List Nat := [161, 162, 163, 164]
def fs_r_begin : List (Nat × Nat) := [(106, 82), (106, 83), (106, 87), (106, 88)]
theorem f_r_begin (σ0 : jx_S) (x1 : Int32) (x2 : Int32) (x3 : Int32) (σ : jx_S) (h0 : jFr ms_r_begin fs_r_begin σ0 σ) (t : jx_S) (h : p_r_begin x1 x2 x3 σ = some t) : fkV ms_r_begin fs_r_begin σ0 t := by
  unfold p_r_begin at h
  rcases Classical.em (¬ (σ.1 106 82) = (250 : Int32)) with hc | hc
  · rw [if_pos hc] at h
    rcases Classical.em (¬ (σ.1 106 88) = (σ.1 106 89)) with hc | hc
    · rw [if_pos hc] at h
      obtain ⟨hi, h⟩ := jx_ite0_inv h
      obtain ⟨hi, h⟩ := jx_ite0_inv h
      obtain ⟨hi, h⟩ := jx_ite0_inv h
      obtain ⟨hi, h⟩ := jx_ite0_inv h
      rcases Classical.em (((σ.1 106 82) + (1 : Int32)) ≤ (σ.1 106 83)) with hc | hc
      · rw [if_pos hc] at h
        have h9 := Option.some.inj h
        subst h9
        exact (jFr.i (jFr.i (jFr.ia (jFr.ia (jFr.ia (jFr.ia (jFr.i h0 (by decide)) (by decide)) (by decide)) (by decide)) (by decide)) (by decide)) (by decide))
      · rw [if_neg hc] at h
        have h9 := Option.some.inj h
        subst h9
        exact (jFr.i (jFr.i (jFr.ia (jFr.ia (jFr.ia (jFr.ia (jFr.i h0 (by decide)) (by decide)) (by decide)) (by decide)) (by decide)) (by decide)) (by decide))
    · rw [if_neg hc] at h
      have h9 := Option.some.inj h
      subst h9
      exact (jFr.i h0 (by decide))
  · rw [if_neg hc] at h
    have h9 := Option.some.inj h
    subst h9
    exact (jFr.i h0 (by decide))
def ms_r_finish : List Nat := [153, 154]
def fs_r_finish : List (Nat × Nat) := [(106, 82), (106, 90)]
theorem f_r_finish (σ0 : jx_S) (x1 : Int64) (σ : jx_S) (h0 : jFr ms_r_finish fs_r_finish σ0 σ) (t : jx_S) (h : p_r_finish x1 σ = some t) : fkV ms_r_finish fs_r_finish σ0 t := by
  unfold p_r_finish at h
  obtain ⟨hi, h⟩ := jx_ite0_inv h
  rcases Classical.em (((σ.1 164) (((σ.1 106 82) - (1 : Int32))).toNatClampNeg) < 0) with hc | hc
  · rw [if_pos hc] at h
    have h9 := Option.some.inj h
    subst h9
    exact (jFr.l (jFr.i h0 (by decide)) (by decide))
  · rw [if_neg hc] at h
    obtain ⟨hi, h⟩ := jx_ite0_inv h
    obtain ⟨hi, h⟩ := jx_ite0_inv h
    have h9 := Option.some.inj h
    subst h9
    exact (jFr.la (jFr.ia (jFr.l (jFr.i h0 (by decide)) (by decide)) (by decide)) (by decide))
def ms_r_putFunction : List Nat := [157, 158, 159, 169, 170]
def fs_r_putFunction : List (Nat × Nat) := [(106, 74), (106, 76), (106, 87), (106, 101)]
def fk_r_putFunction_106 (σ0 : jx_S) (t : ((Int32 × Int32 × Int32 × jx_S) ⊕ (Int64 × jx_S))) : Prop := match t with
  | .inl s => jFr ms_r_putFunction fs_r_putFunction σ0 (s.2.2.2)
  | .inr t => fkJ ms_r_putFunction fs_r_putFunction σ0 t
theorem f_r_putFunction_106_s (σ0 : jx_S) (x3 : Int32) (x4 : Int32) (x5 : Int32) (σ : jx_S) (h0 : jFr ms_r_putFunction fs_r_putFunction σ0 σ) (t : ((Int32 × Int32 × Int32 × jx_S) ⊕ (Int64 × jx_S))) (h : p_r_putFunction_106_s x3 x4 x5 σ = some t) : fk_r_putFunction_106 σ0 t := by
  unfold p_r_putFunction_106_s at h
  rcases Classical.em (x3 ≤ x5) with hc | hc
  · rw [if_pos hc] at h
    obtain ⟨t9_1, h9_1, h8_1⟩ := Option.map_eq_some_iff.mp h
    clear h
    subst h8_1
    have h := h9_1
    clear h9_1
    have h9 := Option.some.inj h
    subst h9
    exact (jFr.i (jFr.i (jFr.i h0 (by decide)) (by decide)) (by decide))
  · rw [if_neg hc] at h
    obtain ⟨hi, h⟩ := jx_ite0_inv h
    obtain ⟨hi, h⟩ := jx_ite0_inv h
    obtain ⟨hi, h⟩ := jx_ite0_inv h
    have h9 := Option.some.inj h
    subst h9
    exact (jFr.ia (jFr.ia h0 (by decide)) (by decide))
theorem f_r_putFunction_106 (σ0 : jx_S) (x3 : Int32) (x4 : Int32) (x5 : Int32) (σ : jx_S) (h0 : jFr ms_r_putFunction fs_r_putFunction σ0 σ) (t : (Int64 × jx_S)) (h : p_r_putFunction_106 x3 x4 x5 σ = some t) : fkJ ms_r_putFunction fs_r_putFunction σ0 t := by
  refine jx_loop_ok (E := fun s t => jFr ms_r_putFunction fs_r_putFunction σ0 (s.2.2.2) → fkJ ms_r_putFunction fs_r_putFunction σ0 t) (fun s t hs => ?_) _ _ _ h h0
  cases t with
  | inl s1 => exact fun b hb hf => hb (f_r_putFunction_106_s σ0 (s.1) (s.2.1) (s.2.2.1) (s.2.2.2) hf _ hs)
  | inr b => exact fun hf => f_r_putFunction_106_s σ0 (s.1) (s.2.1) (s.2.2.1) (s.2.2.2) hf _ hs
theorem f_r_putFunction_71 (σ0 : jx_S) (x1 : Int32) (x3 : Int32) (y0 : Int64) (y1 : Int32) (σ : jx_S) (h0 : jFr ms_r_putFunction fs_r_putFunction σ0 σ) (t : (Int64 × jx_S)) (h : p_r_putFunction_71 x1 x3 y0 y1 σ = some t) : fkJ ms_r_putFunction fs_r_putFunction σ0 t := by
  unfold p_r_putFunction_71 at h
  obtain ⟨hi, h⟩ := jx_ite0_inv h
  obtain ⟨hi, h⟩ := jx_ite0_inv h
  obtain ⟨hi, h⟩ := jx_ite0_inv h
  obtain ⟨hi, h⟩ := jx_ite0_inv h
  exact f_r_putFunction_106 σ0 x3 ((σ.1 114) (x1).toNatClampNeg) (0 : Int32) (jx_i (jx_i (jx_l σ 157 (y1).toNatClampNeg y0) 158 ((σ.1 106 74)).toNatClampNeg (σ.1 106 76)) 159 ((σ.1 106 74)).toNatClampNeg x3) (jFr.ia (jFr.ia (jFr.la h0 (by decide)) (by decide)) (by decide)) _ h
theorem f_r_putFunction (σ0 : jx_S) (x1 : Int32) (x2 : Int32) (σ : jx_S) (h0 : jFr ms_r_putFunction fs_r_putFunction σ0 σ) (t : (Int64 × jx_S)) (h : p_r_putFunction x1 x2 σ = some t) : fkJ ms_r_putFunction fs_r_putFunction σ0 t := by
  unfold p_r_putFunction at h
  obtain ⟨hi, h⟩ := jx_ite0_inv h
  rcases Classical.em (((σ.1 106 76) + ((σ.1 119) (x1).toNatClampNeg)) ≤ (6000 : Int32)) with hc | hc
  · rw [if_pos hc] at h
    obtain ⟨hi, h⟩ := jx_ite0_inv h
    rcases Classical.em (((σ.1 117) (x1).toNatClampNeg) < 0) with hc | hc
    · rw [if_pos hc] at h
      obtain ⟨hi, h⟩ := jx_ite0_inv h
      exact f_r_putFunction_71 σ0 x1 ((σ.1 119) (x1).toNatClampNeg) (v_r_tagged (4 : Int64) ((σ.1 123) (x1).toNatClampNeg) σ) (σ.1 106 74) σ h0 _ h
    · rw [if_neg hc] at h
      obtain ⟨hi, h⟩ := jx_ite0_inv h
      obtain ⟨hi, h⟩ := jx_ite0_inv h
      exact f_r_putFunction_71 σ0 x1 ((σ.1 119) (x1).toNatClampNeg) ((σ.2 150) ((x2 + ((σ.1 117) (x1).toNatClampNeg))).toNatClampNeg) (σ.1 106 74) σ h0 _ h
  · rw [if_neg hc] at h
    have h9 := Option.some.inj h
    subst h9
    exact (jFr.i h0 (by decide))
def ms_r_putOne : List Nat := [151, 152, 153, 157, 158, 159, 169, 170]
def fs_r_putOne : List (Nat × Nat) := [(106, 67), (106, 74), (106, 76), (106, 87), (106, 101)]
theorem f_r_putOne_146 (σ0 : jx_S) (x1 : Int32) (x2 : Int32) (σ : jx_S) (h0 : jFr ms_r_putOne fs_r_putOne σ0 σ) (t : (Int64 × jx_S)) (h : p_r_putOne_146 x1 x2 σ = some t) : fkJ ms_r_putOne fs_r_putOne σ0 t := by
  unfold p_r_putOne_146 at h
  rcases Classical.em (¬ (σ.1 106 67) = (3000 : Int32)) with hc | hc
  · rw [if_pos hc] at h
    obtain ⟨hi, h⟩ := jx_ite0_inv h
    obtain ⟨hi, h⟩ := jx_ite0_inv h
    obtain ⟨hi, h⟩ := jx_ite0_inv h
    have h9 := Option.some.inj h
    subst h9
    exact (jFr.i (jFr.ia (jFr.ia (jFr.ia h0 (by decide)) (by decide)) (by decide)) (by decide))
  · rw [if_neg hc] at h
    have h9 := Option.some.inj h
    subst h9
    exact (jFr.i h0 (by decide))
theorem f_r_putOne_119 (σ0 : jx_S) (x1 : Int32) (x2 : Int32) (σ : jx_S) (h0 : jFr ms_r_putOne fs_r_putOne σ0 σ) (t : (Int64 × jx_S)) (h : p_r_putOne_119 x1 x2 σ = some t) : fkJ ms_r_putOne fs_r_putOne σ0 t := by
  unfold p_r_putOne_119 at h
  obtain ⟨hi, h⟩ := jx_ite0_inv h
  rcases Classical.em (¬ ((σ.1 112) (x1).toNatClampNeg) = (1 : Int32)) with hc | hc
  · rw [if_pos hc] at h
    exact f_r_putOne_146 σ0 x1 x2 σ h0 _ h
  · rw [if_neg hc] at h
    obtain ⟨hi, h⟩ := jx_ite0_inv h
    rcases Classical.em (((σ.1 124) (x1).toNatClampNeg) ≤ (1 : Int32)) with hc | hc
    · rw [if_pos hc] at h
      exact f_r_putOne_146 σ0 x1 x2 σ h0 _ h
    · rw [if_neg hc] at h
      obtain ⟨q1, hq, h⟩ := Option.bind_eq_some_iff.mp h
      have f_q1 := jFr.step h0 (f_r_putFunction σ x1 x2 σ jFr.rfl q1 hq) (by decide +kernel) (by decide +kernel)
      have h9 := Option.some.inj h
      subst h9
      exact f_q1
theorem f_r_putOne_81 (σ0 : jx_S) (x1 : Int32) (x2 : Int32) (σ : jx_S) (h0 : jFr ms_r_putOne fs_r_putOne σ0 σ) (t : (Int64 × jx_S)) (h : p_r_putOne_81 x1 x2 σ = some t) : fkJ ms_r_putOne fs_r_putOne σ0 t := by
  unfold p_r_putOne_81 at h
  obtain ⟨hi, h⟩ := jx_ite0_inv h
  rcases Classical.em (((σ.1 117) (x1).toNatClampNeg) < 0) with hc | hc
  · rw [if_pos hc] at h
    obtain ⟨hi, h⟩ := jx_ite0_inv h
    have h9 := Option.some.inj h
    subst h9
    exact h0
  · rw [if_neg hc] at h
    obtain ⟨hi, h⟩ := jx_ite0_inv h
    obtain ⟨hi, h⟩ := jx_ite0_inv h
    have h9 := Option.some.inj h
    subst h9
    exact h0
theorem f_r_putOne (σ0 : jx_S) (x1 : Int32) (x2 : Int32) (σ : jx_S) (h0 : jFr ms_r_putOne fs_r_putOne σ0 σ) (t : (Int64 × jx_S)) (h : p_r_putOne x1 x2 σ = some t) : fkJ ms_r_putOne fs_r_putOne σ0 t := by
  unfold p_r_putOne at h
  obtain ⟨hi, h⟩ := jx_ite0_inv h
  rcases Classical.em (¬ ((σ.1 112) (x1).toNatClampNeg) = (2 : Int32)) with hc | hc
  · rw [if_pos hc] at h
    obtain ⟨hi, h⟩ := jx_ite0_inv h
    rcases Classical.em (¬ ((σ.1 112) (x1).toNatClampNeg) = (13 : Int32)) with hc | hc
    · rw [if_pos hc] at h
      obtain ⟨hi, h⟩ := jx_ite0_inv h
      rcases Classical.em (¬ ((σ.1 112) (x1).toNatClampNeg) = (1 : Int32)) with hc | hc
      · rw [if_pos hc] at h
        exact f_r_putOne_119 σ0 x1 x2 σ h0 _ h
      · rw [if_neg hc] at h
        obtain ⟨hi, h⟩ := jx_ite0_inv h
        rcases Classical.em (¬ ((σ.1 119) (x1).toNatClampNeg) = 0) with hc | hc
        · rw [if_pos hc] at h
          exact f_r_putOne_119 σ0 x1 x2 σ h0 _ h
        · rw [if_neg hc] at h
          obtain ⟨hi, h⟩ := jx_ite0_inv h
          rcases Classical.em (0 ≤ ((σ.1 117) (x1).toNatClampNeg)) with hc | hc
          · rw [if_pos hc] at h
            exact f_r_putOne_81 σ0 x1 x2 σ h0 _ h
          · rw [if_neg hc] at h
            obtain ⟨hi, h⟩ := jx_ite0_inv h
            rcases Classical.em (((σ.1 124) (x1).toNatClampNeg) ≤ (1 : Int32)) with hc | hc
            · rw [if_pos hc] at h
              exact f_r_putOne_119 σ0 x1 x2 σ h0 _ h
            · rw [if_neg hc] at h
              exact f_r_putOne_81 σ0 x1 x2 σ h0 _ h
    · rw [if_neg hc] at h
      have h9 := Option.some.inj h
      subst h9
      exact h0
  · rw [if_neg hc] at h
    obtain ⟨hi, h⟩ := jx_ite0_inv h
    obtain ⟨hi, h⟩ := jx_ite0_inv h
    have h9 := Option.some.inj h
    subst h9
    exact h0
def ms_r_putOff : List Nat := [151, 152, 153, 157, 158, 159, 160, 169, 170]
def fs_r_putOff : List (Nat × Nat) := [(106, 67), (106, 74), (106, 76), (106, 87), (106, 101)]
def fk_r_putOff_12 (σ0 : jx_S) (t : ((Int32 × Int64 × jx_S) ⊕ (Int64 × jx_S))) : Prop := match t with
  | .inl s => jFr ms_r_putOff fs_r_putOff σ0 (s.2.2)
  | .inr t => fkJ ms_r_putOff fs_r_putOff σ0 t
theorem f_r_putOff_12_s (σ0 : jx_S) (x2 : Int32) (x3 : Int64) (σ : jx_S) (h0 : jFr ms_r_putOff fs_r_putOff σ0 σ) (t : ((Int32 × Int64 × jx_S) ⊕ (Int64 × jx_S))) (h : p_r_putOff_12_s x2 x3 σ = some t) : fk_r_putOff_12 σ0 t := by
  unfold p_r_putOff_12_s at h
  rcases Classical.em ((σ.1 106 101) ≤ 0) with hc | hc
  · rw [if_pos hc] at h
    obtain ⟨t9_2, h9_2, h8_2⟩ := Option.map_eq_some_iff.mp h
    clear h
    subst h8_2
    have h := h9_2
    clear h9_2
    have h9 := Option.some.inj h
    subst h9
    exact h0
  · rw [if_neg hc] at h
    rcases Classical.em (¬ (σ.1 106 87) = 0) with hc | hc
    · rw [if_pos hc] at h
      obtain ⟨t9_3, h9_3, h8_3⟩ := Option.map_eq_some_iff.mp h
      clear h
      subst h8_3
      have h := h9_3
      clear h9_3
      have h9 := Option.some.inj h
      subst h9
      exact h0
    · rw [if_neg hc] at h
      obtain ⟨hi, h⟩ := jx_ite0_inv h
      obtain ⟨hi, h⟩ := jx_ite0_inv h
      obtain ⟨q4, hq, h⟩ := Option.bind_eq_some_iff.mp h
      have f_q4 := jFr.step (jFr.i h0 (by decide)) (f_r_putOne (jx_i σ 106 101 ((σ.1 106 101) - (1 : Int32))) ((σ.1 169) (((σ.1 106 101) - (1 : Int32))).toNatClampNeg) x2 (jx_i σ 106 101 ((σ.1 106 101) - (1 : Int32))) jFr.rfl q4 hq) (by decide +kernel) (by decide +kernel)
      obtain ⟨hi, h⟩ := jx_ite0_inv h
      have h9 := Option.some.inj h
      subst h9
      exact (jFr.la f_q4 (by decide))
theorem f_r_putOff_12 (σ0 : jx_S) (x2 : Int32) (x3 : Int64) (σ : jx_S) (h0 : jFr ms_r_putOff fs_r_putOff σ0 σ) (t : (Int64 × jx_S)) (h : p_r_putOff_12 x2 x3 σ = some t) : fkJ ms_r_putOff fs_r_putOff σ0 t := by
  refine jx_loop_ok (E := fun s t => jFr ms_r_putOff fs_r_putOff σ0 (s.2.2) → fkJ ms_r_putOff fs_r_putOff σ0 t) (fun s t hs => ?_) _ _ _ h h0
  cases t with
  | inl s1 => exact fun b hb hf => hb (f_r_putOff_12_s σ0 (s.1) (s.2.1) (s.2.2) hf _ hs)
  | inr b => exact fun hf => f_r_putOff_12_s σ0 (s.1) (s.2.1) (s.2.2) hf _ hs
theorem f_r_putOff (σ0 : jx_S) (x1 : Int32) (x2 : Int32) (σ : jx_S) (h0 : jFr ms_r_putOff fs_r_putOff σ0 σ) (t : (Int64 × jx_S)) (h : p_r_putOff x1 x2 σ = some t) : fkJ ms_r_putOff fs_r_putOff σ0 t := by
  unfold p_r_putOff at h
  obtain ⟨q1, hq, h⟩ := Option.bind_eq_some_iff.mp h
  have f_q1 := jFr.step (jFr.i h0 (by decide)) (f_r_putOne (jx_i σ 106 101 (0 : Int32)) x1 x2 (jx_i σ 106 101 (0 : Int32)) jFr.rfl q1 hq) (by decide +kernel) (by decide +kernel)
  exact f_r_putOff_12 σ0 x2 q1.1 q1.2 f_q1 _ h
def ms_r_functionOf : List Nat := []
def fs_r_functionOf : List (Nat × Nat) := []
def fk_r_functionOf_2 (σ0 : jx_S) (t : ((Int64 × jx_S) ⊕ (Int32 × jx_S))) : Prop := match t with
  | .inl s => jFr ms_r_functionOf fs_r_functionOf σ0 (s.2)
  | .inr t => fkI ms_r_functionOf fs_r_functionOf σ0 t
theorem f_r_functionOf_2_s (σ0 : jx_S) (x3 : Int64) (σ : jx_S) (h0 : jFr ms_r_functionOf fs_r_functionOf σ0 σ) (t : ((Int64 × jx_S) ⊕ (Int32 × jx_S))) (h : p_r_functionOf_2_s x3 σ = some t) : fk_r_functionOf_2 σ0 t := by
  unfold p_r_functionOf_2_s at h
  rcases Classical.em (¬ (v_r_tagOf x3 σ) = (5 : Int32)) with hc | hc
  · rw [if_pos hc] at h
    obtain ⟨t9_1, h9_1, h8_1⟩ := Option.map_eq_some_iff.mp h
    clear h
    subst h8_1
    have h := h9_1
    clear h9_1
    have h9 := Option.some.inj h
    subst h9
    exact h0
  · rw [if_neg hc] at h
    obtain ⟨hi, h⟩ := jx_ite0_inv h
    have h9 := Option.some.inj h
    subst h9
    exact h0
theorem f_r_functionOf_2 (σ0 : jx_S) (x3 : Int64) (σ : jx_S) (h0 : jFr ms_r_functionOf fs_r_functionOf σ0 σ) (t : (Int32 × jx_S)) (h : p_r_functionOf_2 x3 σ = some t) : fkI ms_r_functionOf fs_r_functionOf σ0 t := by
  refine jx_loop_ok (E := fun s t => jFr ms_r_functionOf fs_r_functionOf σ0 (s.2) → fkI ms_r_functionOf fs_r_functionOf σ0 t) (fun s t hs => ?_) _ _ _ h h0
  cases t with
  | inl s1 => exact fun b hb hf => hb (f_r_functionOf_2_s σ0 (s.1) (s.2) hf _ hs)
  | inr b => exact fun hf => f_r_functionOf_2_s σ0 (s.1) (s.2) hf _ hs
theorem f_r_functionOf (σ0 : jx_S) (x1 : Int64) (σ : jx_S) (h0 : jFr ms_r_functionOf fs_r_functionOf σ0 σ) (t : (Int32 × jx_S)) (h : p_r_functionOf x1 σ = some t) : fkI ms_r_functionOf fs_r_functionOf σ0 t := by
  unfold p_r_functionOf at h
  exact f_r_functionOf_2 σ0 x1 σ h0 _ h
def ms_r_gotBy : List Nat := []
def fs_r_gotBy : List (Nat × Nat) := []
def fk_r_gotBy_5 (σ0 : jx_S) (t : ((Int64 × Int32 × jx_S) ⊕ (Int32 × jx_S))) : Prop := match t with
  | .inl s => jFr ms_r_gotBy fs_r_gotBy σ0 (s.2.2)
  | .inr t => fkI ms_r_gotBy fs_r_gotBy σ0 t
theorem f_r_gotBy_5_s (σ0 : jx_S) (x3 : Int64) (x5 : Int32) (σ : jx_S) (h0 : jFr ms_r_gotBy fs_r_gotBy σ0 σ) (t : ((Int64 × Int32 × jx_S) ⊕ (Int32 × jx_S))) (h : p_r_gotBy_5_s x3 x5 σ = some t) : fk_r_gotBy_5 σ0 t := by
  unfold p_r_gotBy_5_s at h
  rcases Classical.em (¬ (v_r_tagOf x3 σ) = (5 : Int32)) with hc | hc
  · rw [if_pos hc] at h
    obtain ⟨t9_1, h9_1, h8_1⟩ := Option.map_eq_some_iff.mp h
    clear h
    subst h8_1
    have h := h9_1
    clear h9_1
    have h9 := Option.some.inj h
    subst h9
    exact h0
  · rw [if_neg hc] at h
    obtain ⟨hi, h⟩ := jx_ite0_inv h
    obtain ⟨hi, h⟩ := jx_ite0_inv h
    have h9 := Option.some.inj h
    subst h9
    exact h0
theorem f_r_gotBy_5 (σ0 : jx_S) (x3 : Int64) (x5 : Int32) (σ : jx_S) (h0 : jFr ms_r_gotBy fs_r_gotBy σ0 σ) (t : (Int32 × jx_S)) (h : p_r_gotBy_5 x3 x5 σ = some t) : fkI ms_r_gotBy fs_r_gotBy σ0 t := by
  refine jx_loop_ok (E := fun s t => jFr ms_r_gotBy fs_r_gotBy σ0 (s.2.2) → fkI ms_r_gotBy fs_r_gotBy σ0 t) (fun s t hs => ?_) _ _ _ h h0
  cases t with
  | inl s1 => exact fun b hb hf => hb (f_r_gotBy_5_s σ0 (s.1) (s.2.1) (s.2.2) hf _ hs)
  | inr b => exact fun hf => f_r_gotBy_5_s σ0 (s.1) (s.2.1) (s.2.2) hf _ hs
theorem f_r_gotBy (σ0 : jx_S) (x1 : Int64) (σ : jx_S) (h0 : jFr ms_r_gotBy fs_r_gotBy σ0 σ) (t : (Int32 × jx_S)) (h : p_r_gotBy x1 σ = some t) : fkI ms_r_gotBy fs_r_gotBy σ0 t := by
  unfold p_r_gotBy at h
  exact f_r_gotBy_5 σ0 x1 (0 : Int32) σ h0 _ h
