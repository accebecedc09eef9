def ms_cTyp_check : List Nat := [33, 37, 53]
def fs_cTyp_check : List (Nat × Nat) := [(1, 0), (1, 1)]
def fk_cTyp_check_13 (σ0 : jx_S) (t : ((Int32 × jx_S) ⊕ jx_S)) : Prop := match t with
  | .inl s => jFr ms_cTyp_check fs_cTyp_check σ0 (s.2)
  | .inr t => fkV ms_cTyp_check fs_cTyp_check σ0 t
def fk_cTyp_check_37 (σ0 : jx_S) (t : ((Int32 × jx_S) ⊕ jx_S)) : Prop := match t with
  | .inl s => jFr ms_cTyp_check fs_cTyp_check σ0 (s.2)
  | .inr t => fkV ms_cTyp_check fs_cTyp_check σ0 t
def fk_cTyp_check_61 (σ0 : jx_S) (t : ((Int32 × jx_S) ⊕ jx_S)) : Prop := match t with
  | .inl s => jFr ms_cTyp_check fs_cTyp_check σ0 (s.2)
  | .inr t => fkV ms_cTyp_check fs_cTyp_check σ0 t
theorem f_cTyp_check_61_s (σ0 : jx_S) (x1 : Int32) (σ : jx_S) (h0 : jFr ms_cTyp_check fs_cTyp_check σ0 σ) (t : ((Int32 × jx_S) ⊕ jx_S)) (h : p_cTyp_check_61_s x1 σ = some t) : fk_cTyp_check_61 σ0 t := by
  unfold p_cTyp_check_61_s at h
  rcases Classical.em ((σ.1 4 10) ≤ x1) with hc | hc
  · rw [if_pos hc] at h
    obtain ⟨t9_1, h9_1, h8_1⟩ := Option.map_eq_some_iff.mp h
    clear h
    subst h8_1
    have h := h9_1
    clear h9_1
    have h9 := Option.some.inj h
    subst h9
    exact h0
  · rw [if_neg hc] at h
    obtain ⟨q2, hq, h⟩ := Option.bind_eq_some_iff.mp h
    have f_q2 := jFr.step h0 (f_cTyp_countCases σ x1 σ jFr.rfl q2 hq) (by decide +kernel) (by decide +kernel)
    have h9 := Option.some.inj h
    subst h9
    exact f_q2
theorem f_cTyp_check_61 (σ0 : jx_S) (x1 : Int32) (σ : jx_S) (h0 : jFr ms_cTyp_check fs_cTyp_check σ0 σ) (t : jx_S) (h : p_cTyp_check_61 x1 σ = some t) : fkV ms_cTyp_check fs_cTyp_check σ0 t := by
  refine jx_loop_ok (E := fun s t => jFr ms_cTyp_check fs_cTyp_check σ0 (s.2) → fkV ms_cTyp_check fs_cTyp_check σ0 t) (fun s t hs => ?_) _ _ _ h h0
  cases t with
  | inl s1 => exact fun b hb hf => hb (f_cTyp_check_61_s σ0 (s.1) (s.2) hf _ hs)
  | inr b => exact fun hf => f_cTyp_check_61_s σ0 (s.1) (s.2) hf _ hs
theorem f_cTyp_check_37_s (σ0 : jx_S) (x1 : Int32) (σ : jx_S) (h0 : jFr ms_cTyp_check fs_cTyp_check σ0 σ) (t : ((Int32 × jx_S) ⊕ jx_S)) (h : p_cTyp_check_37_s x1 σ = some t) : fk_cTyp_check_37 σ0 t := by
  unfold p_cTyp_check_37_s at h
  rcases Classical.em ((σ.1 4 10) ≤ x1) with hc | hc
  · rw [if_pos hc] at h
    obtain ⟨t9_3, h9_3, h8_3⟩ := Option.map_eq_some_iff.mp h
    clear h
    subst h8_3
    have h := h9_3
    clear h9_3
    exact f_cTyp_check_61 σ0 (0 : Int32) σ h0 _ h
  · rw [if_neg hc] at h
    obtain ⟨q4, hq, h⟩ := Option.bind_eq_some_iff.mp h
    have f_q4 := jFr.step h0 (f_cTyp_checkBody σ x1 σ jFr.rfl q4 hq) (by decide +kernel) (by decide +kernel)
    have h9 := Option.some.inj h
    subst h9
    exact f_q4
theorem f_cTyp_check_37 (σ0 : jx_S) (x1 : Int32) (σ : jx_S) (h0 : jFr ms_cTyp_check fs_cTyp_check σ0 σ) (t : jx_S) (h : p_cTyp_check_37 x1 σ = some t) : fkV ms_cTyp_check fs_cTyp_check σ0 t := by
  refine jx_loop_ok (E := fun s t => jFr ms_cTyp_check fs_cTyp_check σ0 (s.2) → fkV ms_cTyp_check fs_cTyp_check σ0 t) (fun s t hs => ?_) _ _ _ h h0
  cases t with
  | inl s1 => exact fun b hb hf => hb (f_cTyp_check_37_s σ0 (s.1) (s.2) hf _ hs)
  | inr b => exact fun hf => f_cTyp_check_37_s σ0 (s.1) (s.2) hf _ hs
theorem f_cTyp_check_13_s (σ0 : jx_S) (x1 : Int32) (σ : jx_S) (h0 : jFr ms_cTyp_check fs_cTyp_check σ0 σ) (t : ((Int32 × jx_S) ⊕ jx_S)) (h : p_cTyp_check_13_s x1 σ = some t) : fk_cTyp_check_13 σ0 t := by
  unfold p_cTyp_check_13_s at h
  rcases Classical.em ((σ.1 4 10) ≤ x1) with hc | hc
  · rw [if_pos hc] at h
    obtain ⟨t9_5, h9_5, h8_5⟩ := Option.map_eq_some_iff.mp h
    clear h
    subst h8_5
    have h := h9_5
    clear h9_5
    exact f_cTyp_check_37 σ0 (0 : Int32) σ h0 _ h
  · rw [if_neg hc] at h
    obtain ⟨q6, hq, h⟩ := Option.bind_eq_some_iff.mp h
    have f_q6 := jFr.step h0 (f_cTyp_checkNames σ x1 σ jFr.rfl q6 hq) (by decide +kernel) (by decide +kernel)
    have h9 := Option.some.inj h
    subst h9
    exact f_q6
theorem f_cTyp_check_13 (σ0 : jx_S) (x1 : Int32) (σ : jx_S) (h0 : jFr ms_cTyp_check fs_cTyp_check σ0 σ) (t : jx_S) (h : p_cTyp_check_13 x1 σ = some t) : fkV ms_cTyp_check fs_cTyp_check σ0 t := by
  refine jx_loop_ok (E := fun s t => jFr ms_cTyp_check fs_cTyp_check σ0 (s.2) → fkV ms_cTyp_check fs_cTyp_check σ0 t) (fun s t hs => ?_) _ _ _ h h0
  cases t with
  | inl s1 => exact fun b hb hf => hb (f_cTyp_check_13_s σ0 (s.1) (s.2) hf _ hs)
  | inr b => exact fun hf => f_cTyp_check_13_s σ0 (s.1) (s.2) hf _ hs
theorem f_cTyp_check (σ0 : jx_S) (σ : jx_S) (h0 : jFr ms_cTyp_check fs_cTyp_check σ0 σ) (t : jx_S) (h : p_cTyp_check σ = some t) : fkV ms_cTyp_check fs_cTyp_check σ0 t := by
  unfold p_cTyp_check at h
  rcases Classical.em ((v_cFau_isTold σ) = 0) with hc | hc
  · rw [if_pos hc] at h
    exact f_cTyp_check_13 σ0 (0 : Int32) σ h0 _ h
  · rw [if_neg hc] at h
    have h9 := Option.some.inj h
    subst h9
    exact h0
def ms_cAna_clear : List Nat := [63, 65]
def fs_cAna_clear : List (Nat × Nat) := [(7, 6)]
def fk_cAna_clear_7 (σ0 : jx_S) (t : ((Int32 × jx_S) ⊕ jx_S)) : Prop := match t with
  | .inl s => jFr ms_cAna_clear fs_cAna_clear σ0 (s.2)
  | .inr t => fkV ms_cAna_clear fs_cAna_clear σ0 t
def fk_cAna_clear_29 (σ0 : jx_S) (t : ((Int32 × Int32 × jx_S) ⊕ ((Int32 × jx_S) ⊕ jx_S))) : Prop := match t with
  | .inl s => jFr ms_cAna_clear fs_cAna_clear σ0 (s.2.2)
  | .inr t => fk_cAna_clear_7 σ0 t
theorem f_cAna_clear_29_s (σ0 : jx_S) (x1 : Int32) (x2 : Int32) (σ : jx_S) (h0 : jFr ms_cAna_clear fs_cAna_clear σ0 σ) (t : ((Int32 × Int32 × jx_S) ⊕ ((Int32 × jx_S) ⊕ jx_S))) (h : p_cAna_clear_29_s x1 x2 σ = some t) : fk_cAna_clear_29 σ0 t := by
  unfold p_cAna_clear_29_s at h
  rcases Classical.em ((jI_at 40 (σ.1 53) x1) ≤ x2) with hc | hc
  · rw [if_pos hc] at h
    obtain ⟨t9_2, h9_2, h8_2⟩ := Option.map_eq_some_iff.mp h
    clear h
    subst h8_2
    have h := h9_2
    clear h9_2
    have h9 := Option.some.inj h
    subst h9
    exact h0
  · rw [if_neg hc] at h
    have h9 := Option.some.inj h
    subst h9
    exact (jFr.ip h0 (by decide))
theorem f_cAna_clear_29 (σ0 : jx_S) (x1 : Int32) (x2 : Int32) (σ : jx_S) (h0 : jFr ms_cAna_clear fs_cAna_clear σ0 σ) (t : ((Int32 × jx_S) ⊕ jx_S)) (h : p_cAna_clear_29 x1 x2 σ = some t) : fk_cAna_clear_7 σ0 t := by
  refine jx_loop_ok (E := fun s t => jFr ms_cAna_clear fs_cAna_clear σ0 (s.2.2) → fk_cAna_clear_7 σ0 t) (fun s t hs => ?_) _ _ _ h h0
  cases t with
  | inl s1 => exact fun b hb hf => hb (f_cAna_clear_29_s σ0 (s.1) (s.2.1) (s.2.2) hf _ hs)
  | inr b => exact fun hf => f_cAna_clear_29_s σ0 (s.1) (s.2.1) (s.2.2) hf _ hs
theorem f_cAna_clear_7_s (σ0 : jx_S) (x1 : Int32) (σ : jx_S) (h0 : jFr ms_cAna_clear fs_cAna_clear σ0 σ) (t : ((Int32 × jx_S) ⊕ jx_S)) (h : p_cAna_clear_7_s x1 σ = some t) : fk_cAna_clear_7 σ0 t := by
  unfold p_cAna_clear_7_s at h
  rcases Classical.em ((σ.1 4 10) ≤ x1) with hc | hc
  · rw [if_pos hc] at h
    obtain ⟨t9_1, h9_1, h8_1⟩ := Option.map_eq_some_iff.mp h
    clear h
    subst h8_1
    have h := h9_1
    clear h9_1
    have h9 := Option.some.inj h
    subst h9
    exact h0
  · rw [if_neg hc] at h
    exact f_cAna_clear_29 σ0 x1 (0 : Int32) (jI_put 40 σ 65 x1 (0 : Int32)) (jFr.ip h0 (by decide)) _ h
theorem f_cAna_clear_7 (σ0 : jx_S) (x1 : Int32) (σ : jx_S) (h0 : jFr ms_cAna_clear fs_cAna_clear σ0 σ) (t : jx_S) (h : p_cAna_clear_7 x1 σ = some t) : fkV ms_cAna_clear fs_cAna_clear σ0 t := by
  refine jx_loop_ok (E := fun s t => jFr ms_cAna_clear fs_cAna_clear σ0 (s.2) → fkV ms_cAna_clear fs_cAna_clear σ0 t) (fun s t hs => ?_) _ _ _ h h0
  cases t with
  | inl s1 => exact fun b hb hf => hb (f_cAna_clear_7_s σ0 (s.1) (s.2) hf _ hs)
  | inr b => exact fun hf => f_cAna_clear_7_s σ0 (s.1) (s.2) hf _ hs
theorem f_cAna_clear (σ0 : jx_S) (σ : jx_S) (h0 : jFr ms_cAna_clear fs_cAna_clear σ0 σ) (t : jx_S) (h : p_cAna_clear σ = some t) : fkV ms_cAna_clear fs_cAna_clear σ0 t := by
  unfold p_cAna_clear at h
  exact f_cAna_clear_7 σ0 (0 : Int32) (jx_i σ 7 6 (0 : Int32)) (jFr.i h0 (by decide)) _ h
def ms_cAna_mayChange : List Nat := []
def fs_cAna_mayChange : List (Nat × Nat) := []
def fk_cAna_mayChange_22 (σ0 : jx_S) (t : ((Int32 × Int32 × jx_S) ⊕ (Int32 × jx_S))) : Prop := match t with
  | .inl s => jFr ms_cAna_mayChange fs_cAna_mayChange σ0 (s.2.2)
  | .inr t => fkI ms_cAna_mayChange fs_cAna_mayChange σ0 t
theorem f_cAna_mayChange_82 (σ0 : jx_S) (x1 : Int32) (x2 : Int32) (σ : jx_S) (h0 : jFr ms_cAna_mayChange fs_cAna_mayChange σ0 σ) (t : ((Int32 × Int32 × jx_S) ⊕ (Int32 × jx_S))) (h : p_cAna_mayChange_82 x1 x2 σ = some t) : fk_cAna_mayChange_22 σ0 t := by
  unfold p_cAna_mayChange_82 at h
  have h9 := Option.some.inj h
  subst h9
  exact h0
theorem f_cAna_mayChange_22_s (σ0 : jx_S) (x1 : Int32) (x2 : Int32) (σ : jx_S) (h0 : jFr ms_cAna_mayChange fs_cAna_mayChange σ0 σ) (t : ((Int32 × Int32 × jx_S) ⊕ (Int32 × jx_S))) (h : p_cAna_mayChange_22_s x1 x2 σ = some t) : fk_cAna_mayChange_22 σ0 t := by
  unfold p_cAna_mayChange_22_s at h
  rcases Classical.em ((jI_at 40 (σ.1 51) x1) < x2) with hc | hc
  · rw [if_pos hc] at h
    obtain ⟨t9_1, h9_1, h8_1⟩ := Option.map_eq_some_iff.mp h
    clear h
    subst h8_1
    have h := h9_1
    clear h9_1
    have h9 := Option.some.inj h
    subst h9
    exact h0
  · rw [if_neg hc] at h
    rcases Classical.em (¬ (jI_at 1201 (σ.1 23) x2) = (29 : Int32)) with hc | hc
    · rw [if_pos hc] at h
      exact f_cAna_mayChange_82 σ0 x1 x2 σ h0 _ h
    · rw [if_neg hc] at h
      rcases Classical.em ((jI_at 40 (σ.1 65) (jI_at 1201 (σ.1 33) x2)) < ((σ.1 7 6) - (1 : Int32))) with hc | hc
      · rw [if_pos hc] at h
        exact f_cAna_mayChange_82 σ0 x1 x2 σ h0 _ h
      · rw [if_neg hc] at h
        obtain ⟨t9_2, h9_2, h8_2⟩ := Option.map_eq_some_iff.mp h
        clear h
        subst h8_2
        have h := h9_2
        clear h9_2
        have h9 := Option.some.inj h
        subst h9
        exact h0
theorem f_cAna_mayChange_22 (σ0 : jx_S) (x1 : Int32) (x2 : Int32) (σ : jx_S) (h0 : jFr ms_cAna_mayChange fs_cAna_mayChange σ0 σ) (t : (Int32 × jx_S)) (h : p_cAna_mayChange_22 x1 x2 σ = some t) : fkI ms_cAna_mayChange fs_cAna_mayChange σ0 t := by
  refine jx_loop_ok (E := fun s t => jFr ms_cAna_mayChange fs_cAna_mayChange σ0 (s.2.2) → fkI ms_cAna_mayChange fs_cAna_mayChange σ0 t) (fun s t hs => ?_) _ _ _ h h0
  cases t with
  | inl s1 => exact fun b hb hf => hb (f_cAna_mayChange_22_s σ0 (s.1) (s.2.1) (s.2.2) hf _ hs)
  | inr b => exact fun hf => f_cAna_mayChange_22_s σ0 (s.1) (s.2.1) (s.2.2) hf _ hs
theorem f_cAna_mayChange (σ0 : jx_S) (x1 : Int32) (σ : jx_S) (h0 : jFr ms_cAna_mayChange fs_cAna_mayChange σ0 σ) (t : (Int32 × jx_S)) (h : p_cAna_mayChange x1 σ = some t) : fkI ms_cAna_mayChange fs_cAna_mayChange σ0 t := by
  unfold p_cAna_mayChange at h
  rcases Classical.em (¬ (σ.1 7 6) = (1 : Int32)) with hc | hc
  · rw [if_pos hc] at h
    exact f_cAna_mayChange_22 σ0 x1 (jI_at 40 (σ.1 49) x1) σ h0 _ h
  · rw [if_neg hc] at h
    have h9 := Option.some.inj h
    subst h9
    exact h0
def ms_cAna_bindGreatest : List Nat := [69]
def fs_cAna_bindGreatest : List (Nat × Nat) := []
def fk_cAna_bindGreatest_2 (σ0 : jx_S) (t : ((Int32 × Int32 × jx_S) ⊕ jx_S)) : Prop := match t with
  | .inl s => jFr ms_cAna_bindGreatest fs_cAna_bindGreatest σ0 (s.2.2)
  | .inr t => fkV ms_cAna_bindGreatest fs_cAna_bindGreatest σ0 t
theorem f_cAna_bindGreatest_2_s (σ0 : jx_S) (x1 : Int32) (x2 : Int32) (σ : jx_S) (h0 : jFr ms_cAna_bindGreatest fs_cAna_bindGreatest σ0 σ) (t : ((Int32 × Int32 × jx_S) ⊕ jx_S)) (h : p_cAna_bindGreatest_2_s x1 x2 σ = some t) : fk_cAna_bindGreatest_2 σ0 t := by
  unfold p_cAna_bindGreatest_2_s at h
  rcases Classical.em ((jI_at 40 (σ.1 47) x1) ≤ x2) with hc | hc
  · rw [if_pos hc] at h
    obtain ⟨t9_1, h9_1, h8_1⟩ := Option.map_eq_some_iff.mp h
    clear h
    subst h8_1
    have h := h9_1
    clear h9_1
    have h9 := Option.some.inj h
    subst h9
    exact h0
  · rw [if_neg hc] at h
    have h9 := Option.some.inj h
    subst h9
    exact (jFr.ip h0 (by decide))
theorem f_cAna_bindGreatest_2 (σ0 : jx_S) (x1 : Int32) (x2 : Int32) (σ : jx_S) (h0 : jFr ms_cAna_bindGreatest fs_cAna_bindGreatest σ0 σ) (t : jx_S) (h : p_cAna_bindGreatest_2 x1 x2 σ = some t) : fkV ms_cAna_bindGreatest fs_cAna_bindGreatest σ0 t := by
  refine jx_loop_ok (E := fun s t => jFr ms_cAna_bindGreatest fs_cAna_bindGreatest σ0 (s.2.2) → fkV ms_cAna_bindGreatest fs_cAna_bindGreatest σ0 t) (fun s t hs => ?_) _ _ _ h h0
  cases t with
  | inl s1 => exact fun b hb hf => hb (f_cAna_bindGreatest_2_s σ0 (s.1) (s.2.1) (s.2.2) hf _ hs)
  | inr b => exact fun hf => f_cAna_bindGreatest_2_s σ0 (s.1) (s.2.1) (s.2.2) hf _ hs
theorem f_cAna_bindGreatest (σ0 : jx_S) (x1 : Int32) (σ : jx_S) (h0 : jFr ms_cAna_bindGreatest fs_cAna_bindGreatest σ0 σ) (t : jx_S) (h : p_cAna_bindGreatest x1 σ = some t) : fkV ms_cAna_bindGreatest fs_cAna_bindGreatest σ0 t := by
  unfold p_cAna_bindGreatest at h
  exact f_cAna_bindGreatest_2 σ0 x1 (0 : Int32) σ h0 _ h
def ms_cAna_bindCase : List Nat := [69]
def fs_cAna_bindCase : List (Nat × Nat) := []
def fk_cAna_bindCase_22 (σ0 : jx_S) (t : ((Int32 × Int32 × Int32 × jx_S) ⊕ jx_S)) : Prop := match t with
  | .inl s => jFr ms_cAna_bindCase fs_cAna_bindCase σ0 (s.2.2.2)
  | .inr t => fkV ms_cAna_bindCase fs_cAna_bindCase σ0 t
theorem f_cAna_bindCase_22_s (σ0 : jx_S) (x1 : Int32) (x3 : Int32) (x4 : Int32) (σ : jx_S) (h0 : jFr ms_cAna_bindCase fs_cAna_bindCase σ0 σ) (t : ((Int32 × Int32 × Int32 × jx_S) ⊕ jx_S)) (h : p_cAna_bindCase_22_s x1 x3 x4 σ = some t) : fk_cAna_bindCase_22 σ0 t := by
  unfold p_cAna_bindCase_22_s at h
  rcases Classical.em (x4 < 0) with hc | hc
  · rw [if_pos hc] at h
    obtain ⟨t9_2, h9_2, h8_2⟩ := Option.map_eq_some_iff.mp h
    clear h
    subst h8_2
    have h := h9_2
    clear h9_2
    have h9 := Option.some.inj h
    subst h9
    exact h0
  · rw [if_neg hc] at h
    obtain ⟨hi, h⟩ := jx_ite0_inv h
    obtain ⟨hi, h⟩ := jx_ite0_inv h
    have h9 := Option.some.inj h
    subst h9
    exact (jFr.ip h0 (by decide))
theorem f_cAna_bindCase_22 (σ0 : jx_S) (x1 : Int32) (x3 : Int32) (x4 : Int32) (σ : jx_S) (h0 : jFr ms_cAna_bindCase fs_cAna_bindCase σ0 σ) (t : jx_S) (h : p_cAna_bindCase_22 x1 x3 x4 σ = some t) : fkV ms_cAna_bindCase fs_cAna_bindCase σ0 t := by
  refine jx_loop_ok (E := fun s t => jFr ms_cAna_bindCase fs_cAna_bindCase σ0 (s.2.2.2) → fkV ms_cAna_bindCase fs_cAna_bindCase σ0 t) (fun s t hs => ?_) _ _ _ h h0
  cases t with
  | inl s1 => exact fun b hb hf => hb (f_cAna_bindCase_22_s σ0 (s.1) (s.2.1) (s.2.2.1) (s.2.2.2) hf _ hs)
  | inr b => exact fun hf => f_cAna_bindCase_22_s σ0 (s.1) (s.2.1) (s.2.2.1) (s.2.2.2) hf _ hs
theorem f_cAna_bindCase (σ0 : jx_S) (x1 : Int32) (x2 : Int32) (σ : jx_S) (h0 : jFr ms_cAna_bindCase fs_cAna_bindCase σ0 σ) (t : jx_S) (h : p_cAna_bindCase x1 x2 σ = some t) : fkV ms_cAna_bindCase fs_cAna_bindCase σ0 t := by
  unfold p_cAna_bindCase at h
  obtain ⟨q1, hq, h⟩ := Option.bind_eq_some_iff.mp h
  have f_q1 := jFr.step h0 (f_cAna_bindGreatest σ x1 σ jFr.rfl q1 hq) (by decide +kernel) (by decide +kernel)
  exact f_cAna_bindCase_22 σ0 x1 x2 ((jI_at 40 (q1.1 43) x1) - (1 : Int32)) q1 f_q1 _ h
def ms_cAna_pointOfCall : List Nat := []
def fs_cAna_pointOfCall : List (Nat × Nat) := []
def fk_cAna_pointOfCall_43 (σ0 : jx_S) (t : ((Int32 × Int32 × Int32 × Int32 × Int32 × jx_S) ⊕ (Int32 × jx_S))) : Prop := match t with
  | .inl s => jFr ms_cAna_pointOfCall fs_cAna_pointOfCall σ0 (s.2.2.2.2.2)
  | .inr t => fkI ms_cAna_pointOfCall fs_cAna_pointOfCall σ0 t
theorem f_cAna_pointOfCall_43_s (σ0 : jx_S) (x2 : Int32) (x3 : Int32) (x4 : Int32) (x5 : Int32) (x6 : Int32) (σ : jx_S) (h0 : jFr ms_cAna_pointOfCall fs_cAna_pointOfCall σ0 σ) (t : ((Int32 × Int32 × Int32 × Int32 × Int32 × jx_S) ⊕ (Int32 × jx_S))) (h : p_cAna_pointOfCall_43_s x2 x3 x4 x5 x6 σ = some t) : fk_cAna_pointOfCall_43 σ0 t := by
  unfold p_cAna_pointOfCall_43_s at h
  rcases Classical.em (x3 ≤ x6) with hc | hc
  · rw [if_pos hc] at h
    obtain ⟨t9_1, h9_1, h8_1⟩ := Option.map_eq_some_iff.mp h
    clear h
    subst h8_1
    have h := h9_1
    clear h9_1
    rcases Classical.em (((jI_at 40 (σ.1 43) x2) - x3) = 0) with hc0 | hc0
    · rw [if_pos hc0] at h
      have h9 := Option.some.inj h
      subst h9
      exact h0
    · rw [if_neg hc0] at h
      rcases Classical.em (((jI_at 40 (σ.1 43) x2) - x3) = 1) with hc1 | hc1
      · rw [if_pos hc1] at h
        have h9 := Option.some.inj h
        subst h9
        exact h0
      · rw [if_neg hc1] at h
        have h9 := Option.some.inj h
        subst h9
        exact h0
  · rw [if_neg hc] at h
    have h9 := Option.some.inj h
    subst h9
    exact h0
theorem f_cAna_pointOfCall_43 (σ0 : jx_S) (x2 : Int32) (x3 : Int32) (x4 : Int32) (x5 : Int32) (x6 : Int32) (σ : jx_S) (h0 : jFr ms_cAna_pointOfCall fs_cAna_pointOfCall σ0 σ) (t : (Int32 × jx_S)) (h : p_cAna_pointOfCall_43 x2 x3 x4 x5 x6 σ = some t) : fkI ms_cAna_pointOfCall fs_cAna_pointOfCall σ0 t := by
  refine jx_loop_ok (E := fun s t => jFr ms_cAna_pointOfCall fs_cAna_pointOfCall σ0 (s.2.2.2.2.2) → fkI ms_cAna_pointOfCall fs_cAna_pointOfCall σ0 t) (fun s t hs => ?_) _ _ _ h h0
  cases t with
  | inl s1 => exact fun b hb hf => hb (f_cAna_pointOfCall_43_s σ0 (s.1) (s.2.1) (s.2.2.1) (s.2.2.2.1) (s.2.2.2.2.1) (s.2.2.2.2.2) hf _ hs)
  | inr b => exact fun hf => f_cAna_pointOfCall_43_s σ0 (s.1) (s.2.1) (s.2.2.1) (s.2.2.2.1) (s.2.2.2.2.1) (s.2.2.2.2.2) hf _ hs
theorem f_cAna_pointOfCall (σ0 : jx_S) (x1 : Int32) (σ : jx_S) (h0 : jFr ms_cAna_pointOfCall fs_cAna_pointOfCall σ0 σ) (t : (Int32 × jx_S)) (h : p_cAna_pointOfCall x1 σ = some t) : fkI ms_cAna_pointOfCall fs_cAna_pointOfCall σ0 t := by
  unfold p_cAna_pointOfCall at h
  exact f_cAna_pointOfCall_43 σ0 (jI_at 1201 (σ.1 33) x1) (jI_at 1201 (σ.1 35) x1) (0 : Int32) (jI_at 1201 (σ.1 27) x1) (0 : Int32) σ h0 _ h
def ms_cAna_pointOf : List Nat := []
def fs_cAna_pointOf : List (Nat × Nat) := []
theorem f_cAna_pointOf_191 (σ0 : jx_S) (x3 : Int32) (x4 : Int32) (σ : jx_S) (h0 : jFr ms_cAna_pointOf fs_cAna_pointOf σ0 σ) (t : (Int32 × jx_S)) (h : p_cAna_pointOf_191 x3 x4 σ = some t) : fkI ms_cAna_pointOf fs_cAna_pointOf σ0 t := by
  unfold p_cAna_pointOf_191 at h
  have h9 := Option.some.inj h
  subst h9
  exact h0
theorem f_cAna_pointOf_230 (σ0 : jx_S) (x3 : Int32) (x4 : Int32) (σ : jx_S) (h0 : jFr ms_cAna_pointOf fs_cAna_pointOf σ0 σ) (t : (Int32 × jx_S)) (h : p_cAna_pointOf_230 x3 x4 σ = some t) : fkI ms_cAna_pointOf fs_cAna_pointOf σ0 t := by
  unfold p_cAna_pointOf_230 at h
  have h9 := Option.some.inj h
  subst h9
  exact h0
theorem f_cAna_pointOf (σ0 : jx_S) (x1 : Int32) (x2 : Int32) (σ : jx_S) (h0 : jFr ms_cAna_pointOf fs_cAna_pointOf σ0 σ) (t : (Int32 × jx_S)) (h : p_cAna_pointOf x1 x2 σ = some t) : fkI ms_cAna_pointOf fs_cAna_pointOf σ0 t := by
  unfold p_cAna_pointOf at h
  rcases Classical.em ((jI_at 1201 (σ.1 23) x2) = 2) with hc0 | hc0
  · rw [if_pos hc0] at h
    have h9 := Option.some.inj h
    subst h9
    exact h0
  · rw [if_neg hc0] at h
    rcases Classical.em ((jI_at 1201 (σ.1 23) x2) = 5) with hc1 | hc1
    · rw [if_pos hc1] at h
      have h9 := Option.some.inj h
      subst h9
      exact h0
    · rw [if_neg hc1] at h
      rcases Classical.em ((jI_at 1201 (σ.1 23) x2) = 7) with hc2 | hc2
      · rw [if_pos hc2] at h
        exact f_cAna_pointOf_191 σ0 (jI_at 1201 (σ.1 27) x2) (jI_at 1201 (σ.1 29) (jI_at 1201 (σ.1 27) x2)) σ h0 _ h
      · rw [if_neg hc2] at h
        rcases Classical.em ((jI_at 1201 (σ.1 23) x2) = 10) with hc3 | hc3
        · rw [if_pos hc3] at h
          exact f_cAna_pointOf_191 σ0 (jI_at 1201 (σ.1 27) x2) (jI_at 1201 (σ.1 29) (jI_at 1201 (σ.1 27) x2)) σ h0 _ h
        · rw [if_neg hc3] at h
          rcases Classical.em ((jI_at 1201 (σ.1 23) x2) = 13) with hc4 | hc4
          · rw [if_pos hc4] at h
            have h9 := Option.some.inj h
            subst h9
            exact h0
          · rw [if_neg hc4] at h
            rcases Classical.em ((jI_at 1201 (σ.1 23) x2) = 14) with hc5 | hc5
            · rw [if_pos hc5] at h
              have h9 := Option.some.inj h
              subst h9
              exact h0
            · rw [if_neg hc5] at h
              rcases Classical.em ((jI_at 1201 (σ.1 23) x2) = 15) with hc6 | hc6
              · rw [if_pos hc6] at h
                have h9 := Option.some.inj h
                subst h9
                exact h0
              · rw [if_neg hc6] at h
                rcases Classical.em ((jI_at 1201 (σ.1 23) x2) = 28) with hc7 | hc7
                · rw [if_pos hc7] at h
                  have h9 := Option.some.inj h
                  subst h9
                  exact h0
                · rw [if_neg hc7] at h
                  rcases Classical.em ((jI_at 1201 (σ.1 23) x2) = 29) with hc8 | hc8
                  · rw [if_pos hc8] at h
                    obtain ⟨q1, hq, h⟩ := Option.bind_eq_some_iff.mp h
                    have f_q1 := jFr.step h0 (f_cAna_pointOfCall σ x2 σ jFr.rfl q1 hq) (by decide +kernel) (by decide +kernel)
                    have h9 := Option.some.inj h
                    subst h9
                    exact f_q1
                  · rw [if_neg hc8] at h
                    exact f_cAna_pointOf_230 σ0 (jI_at 1201 (σ.1 27) x2) (jI_at 1201 (σ.1 29) (jI_at 1201 (σ.1 27) x2)) σ h0 _ h
def ms_cAna_pointBetween : List Nat := [67, 69]
def fs_cAna_pointBetween : List (Nat × Nat) := []
def fk_cAna_pointBetween_3 (σ0 : jx_S) (t : ((Int32 × Int32 × Int32 × jx_S) ⊕ (Int32 × jx_S))) : Prop := match t with
  | .inl s => jFr ms_cAna_pointBetween fs_cAna_pointBetween σ0 (s.2.2.2)
  | .inr t => fkI ms_cAna_pointBetween fs_cAna_pointBetween σ0 t
theorem f_cAna_pointBetween_60 (σ0 : jx_S) (x1 : Int32) (x3 : Int32) (x4 : Int32) (σ : jx_S) (h0 : jFr ms_cAna_pointBetween fs_cAna_pointBetween σ0 σ) (t : ((Int32 × Int32 × Int32 × jx_S) ⊕ (Int32 × jx_S))) (h : p_cAna_pointBetween_60 x1 x3 x4 σ = some t) : fk_cAna_pointBetween_3 σ0 t := by
  unfold p_cAna_pointBetween_60 at h
  have h9 := Option.some.inj h
  subst h9
  exact h0
theorem f_cAna_pointBetween_3_s (σ0 : jx_S) (x1 : Int32) (x3 : Int32) (x4 : Int32) (σ : jx_S) (h0 : jFr ms_cAna_pointBetween fs_cAna_pointBetween σ0 σ) (t : ((Int32 × Int32 × Int32 × jx_S) ⊕ (Int32 × jx_S))) (h : p_cAna_pointBetween_3_s x1 x3 x4 σ = some t) : fk_cAna_pointBetween_3 σ0 t := by
  unfold p_cAna_pointBetween_3_s at h
  rcases Classical.em (x3 < x4) with hc | hc
  · rw [if_pos hc] at h
    obtain ⟨t9_1, h9_1, h8_1⟩ := Option.map_eq_some_iff.mp h
    clear h
    subst h8_1
    have h := h9_1
    clear h9_1
    have h9 := Option.some.inj h
    subst h9
    exact h0
  · rw [if_neg hc] at h
    obtain ⟨q2, hq, h⟩ := Option.bind_eq_some_iff.mp h
    have f_q2 := jFr.step h0 (f_cAna_pointOf σ x1 x4 σ jFr.rfl q2 hq) (by decide +kernel) (by decide +kernel)
    rcases Classical.em ((v_cTre_boundBy x4 (jI_put 1201 q2.2 67 x4 q2.1)) = (-1 : Int32)) with hc | hc
    · rw [if_pos hc] at h
      exact f_cAna_pointBetween_60 σ0 x1 x3 x4 (jI_put 1201 q2.2 67 x4 q2.1) (jFr.ip f_q2 (by decide)) _ h
    · rw [if_neg hc] at h
      exact f_cAna_pointBetween_60 σ0 x1 x3 x4 (jI_put 30 (jI_put 1201 q2.2 67 x4 q2.1) 69 (v_cTre_boundBy x4 (jI_put 1201 q2.2 67 x4 q2.1)) (jI_at 1201 (jI_up 1201 (q2.2.1 67) x4 q2.1) x4)) (jFr.ip (jFr.ip f_q2 (by decide)) (by decide)) _ h
theorem f_cAna_pointBetween_3 (σ0 : jx_S) (x1 : Int32) (x3 : Int32) (x4 : Int32) (σ : jx_S) (h0 : jFr ms_cAna_pointBetween fs_cAna_pointBetween σ0 σ) (t : (Int32 × jx_S)) (h : p_cAna_pointBetween_3 x1 x3 x4 σ = some t) : fkI ms_cAna_pointBetween fs_cAna_pointBetween σ0 t := by
  refine jx_loop_ok (E := fun s t => jFr ms_cAna_pointBetween fs_cAna_pointBetween σ0 (s.2.2.2) → fkI ms_cAna_pointBetween fs_cAna_pointBetween σ0 t) (fun s t hs => ?_) _ _ _ h h0
  cases t with
  | inl s1 => exact fun b hb hf => hb (f_cAna_pointBetween_3_s σ0 (s.1) (s.2.1) (s.2.2.1) (s.2.2.2) hf _ hs)
  | inr b => exact fun hf => f_cAna_pointBetween_3_s σ0 (s.1) (s.2.1) (s.2.2.1) (s.2.2.2) hf _ hs
theorem f_cAna_pointBetween (σ0 : jx_S) (x1 : Int32) (x2 : Int32) (x3 : Int32) (σ : jx_S) (h0 : jFr ms_cAna_pointBetween fs_cAna_pointBetween σ0 σ) (t : (Int32 × jx_S)) (h : p_cAna_pointBetween x1 x2 x3 σ = some t) : fkI ms_cAna_pointBetween fs_cAna_pointBetween σ0 t := by
  unfold p_cAna_pointBetween at h
  exact f_cAna_pointBetween_3 σ0 x1 x3 x2 σ h0 _ h
def ms_cAna_raiseCases : List Nat := [63, 67, 69]
def fs_cAna_raiseCases : List (Nat × Nat) := []
def fk_cAna_raiseCases_4 (σ0 : jx_S) (t : ((Int32 × Int32 × Int32 × jx_S) ⊕ (Int32 × jx_S))) : Prop := match t with
  | .inl s => jFr ms_cAna_raiseCases fs_cAna_raiseCases σ0 (s.2.2.2)
  | .inr t => fkI ms_cAna_raiseCases fs_cAna_raiseCases σ0 t
theorem f_cAna_raiseCases_92 (σ0 : jx_S) (x1 : Int32) (x2 : Int32) (x3 : Int32) (σ : jx_S) (h0 : jFr ms_cAna_raiseCases fs_cAna_raiseCases σ0 σ) (t : ((Int32 × Int32 × Int32 × jx_S) ⊕ (Int32 × jx_S))) (h : p_cAna_raiseCases_92 x1 x2 x3 σ = some t) : fk_cAna_raiseCases_4 σ0 t := by
  unfold p_cAna_raiseCases_92 at h
  have h9 := Option.some.inj h
  subst h9
  exact h0
theorem f_cAna_raiseCases_4_s (σ0 : jx_S) (x1 : Int32) (x2 : Int32) (x3 : Int32) (σ : jx_S) (h0 : jFr ms_cAna_raiseCases fs_cAna_raiseCases σ0 σ) (t : ((Int32 × Int32 × Int32 × jx_S) ⊕ (Int32 × jx_S))) (h : p_cAna_raiseCases_4_s x1 x2 x3 σ = some t) : fk_cAna_raiseCases_4 σ0 t := by
  unfold p_cAna_raiseCases_4_s at h
  rcases Classical.em ((jI_at 40 (σ.1 53) x1) ≤ x3) with hc | hc
  · rw [if_pos hc] at h
    obtain ⟨t9_1, h9_1, h8_1⟩ := Option.map_eq_some_iff.mp h
    clear h
    subst h8_1
    have h := h9_1
    clear h9_1
    obtain ⟨hb, h⟩ := jx_ite_inv h
    have h9 := Option.some.inj h
    subst h9
    exact h0
  · rw [if_neg hc] at h
    rcases Classical.em (¬ (jI_at 40000 (σ.1 63) ((x1 * (1000 : Int32)) + x3)) = 0) with hc | hc
    · rw [if_pos hc] at h
      exact f_cAna_raiseCases_92 σ0 x1 x2 x3 σ h0 _ h
    · rw [if_neg hc] at h
      obtain ⟨q2, hq, h⟩ := Option.bind_eq_some_iff.mp h
      have f_q2 := jFr.step h0 (f_cAna_bindCase σ x1 x3 σ jFr.rfl q2 hq) (by decide +kernel) (by decide +kernel)
      obtain ⟨q3, hq, h⟩ := Option.bind_eq_some_iff.mp h
      have f_q3 := jFr.step f_q2 (f_cAna_pointBetween q2 x1 (jI_at 40 (q2.1 49) x1) (jI_at 40 (q2.1 51) x1) q2 jFr.rfl q3 hq) (by decide +kernel) (by decide +kernel)
      rcases Classical.em (¬ q3.1 = (1 : Int32)) with hc | hc
      · rw [if_pos hc] at h
        exact f_cAna_raiseCases_92 σ0 x1 x2 x3 q3.2 f_q3 _ h
      · rw [if_neg hc] at h
        exact f_cAna_raiseCases_92 σ0 x1 (1 : Int32) x3 (jI_put 40000 q3.2 63 ((x1 * (1000 : Int32)) + x3) (q3.2.1 7 6)) (jFr.ip f_q3 (by decide)) _ h
theorem f_cAna_raiseCases_4 (σ0 : jx_S) (x1 : Int32) (x2 : Int32) (x3 : Int32) (σ : jx_S) (h0 : jFr ms_cAna_raiseCases fs_cAna_raiseCases σ0 σ) (t : (Int32 × jx_S)) (h : p_cAna_raiseCases_4 x1 x2 x3 σ = some t) : fkI ms_cAna_raiseCases fs_cAna_raiseCases σ0 t := by
  refine jx_loop_ok (E := fun s t => jFr ms_cAna_raiseCases fs_cAna_raiseCases σ0 (s.2.2.2) → fkI ms_cAna_raiseCases fs_cAna_raiseCases σ0 t) (fun s t hs => ?_) _ _ _ h h0
  cases t with
  | inl s1 => exact fun b hb hf => hb (f_cAna_raiseCases_4_s σ0 (s.1) (s.2.1) (s.2.2.1) (s.2.2.2) hf _ hs)
  | inr b => exact fun hf => f_cAna_raiseCases_4_s σ0 (s.1) (s.2.1) (s.2.2.1) (s.2.2.2) hf _ hs
theorem f_cAna_raiseCases (σ0 : jx_S) (x1 : Int32) (σ : jx_S) (h0 : jFr ms_cAna_raiseCases fs_cAna_raiseCases σ0 σ) (t : (Int32 × jx_S)) (h : p_cAna_raiseCases x1 σ = some t) : fkI ms_cAna_raiseCases fs_cAna_raiseCases σ0 t := by
  unfold p_cAna_raiseCases at h
  exact f_cAna_raiseCases_4 σ0 x1 (0 : Int32) (0 : Int32) σ h0 _ h
def ms_cAna_caseWithout : List Nat := []
def fs_cAna_caseWithout : List (Nat × Nat) := []
def fk_cAna_caseWithout_5 (σ0 : jx_S) (t : ((Int32 × Int32 × Int32 × Int32 × jx_S) ⊕ (Int32 × jx_S))) : Prop := match t with
  | .inl s => jFr ms_cAna_caseWithout fs_cAna_caseWithout σ0 (s.2.2.2.2)
  | .inr t => fkI ms_cAna_caseWithout fs_cAna_caseWithout σ0 t
theorem f_cAna_caseWithout_54 (σ0 : jx_S) (x1 : Int32) (x2 : Int32) (x4 : Int32) (y0 : Int32) (y1 : Int32) (σ : jx_S) (h0 : jFr ms_cAna_caseWithout fs_cAna_caseWithout σ0 σ) (t : ((Int32 × Int32 × Int32 × Int32 × jx_S) ⊕ (Int32 × jx_S))) (h : p_cAna_caseWithout_54 x1 x2 x4 y0 y1 σ = some t) : fk_cAna_caseWithout_5 σ0 t := by
  unfold p_cAna_caseWithout_54 at h
  have h9 := Option.some.inj h
  subst h9
  exact h0
theorem f_cAna_caseWithout_5_s (σ0 : jx_S) (x1 : Int32) (x2 : Int32) (x3 : Int32) (x4 : Int32) (σ : jx_S) (h0 : jFr ms_cAna_caseWithout fs_cAna_caseWithout σ0 σ) (t : ((Int32 × Int32 × Int32 × Int32 × jx_S) ⊕ (Int32 × jx_S))) (h : p_cAna_caseWithout_5_s x1 x2 x3 x4 σ = some t) : fk_cAna_caseWithout_5 σ0 t := by
  unfold p_cAna_caseWithout_5_s at h
  rcases Classical.em ((jI_at 40 (σ.1 43) x1) ≤ x4) with hc | hc
  · rw [if_pos hc] at h
    obtain ⟨t9_1, h9_1, h8_1⟩ := Option.map_eq_some_iff.mp h
    clear h
    subst h8_1
    have h := h9_1
    clear h9_1
    have h9 := Option.some.inj h
    subst h9
    exact h0
  · rw [if_neg hc] at h
    rcases Classical.em (¬ x4 = x2) with hc | hc
    · rw [if_pos hc] at h
      exact f_cAna_caseWithout_54 σ0 x1 x2 x4 ((v_cTyp_pointsOf (v_cFun_typeOf x1 x4 σ) σ) - (1 : Int32)) (x3 * (v_cTyp_pointsOf (v_cFun_typeOf x1 x4 σ) σ)) σ h0 _ h
    · rw [if_neg hc] at h
      exact f_cAna_caseWithout_54 σ0 x1 x2 x4 (0 : Int32) (x3 * (v_cTyp_pointsOf (v_cFun_typeOf x1 x4 σ) σ)) σ h0 _ h
theorem f_cAna_caseWithout_5 (σ0 : jx_S) (x1 : Int32) (x2 : Int32) (x3 : Int32) (x4 : Int32) (σ : jx_S) (h0 : jFr ms_cAna_caseWithout fs_cAna_caseWithout σ0 σ) (t : (Int32 × jx_S)) (h : p_cAna_caseWithout_5 x1 x2 x3 x4 σ = some t) : fkI ms_cAna_caseWithout fs_cAna_caseWithout σ0 t := by
  refine jx_loop_ok (E := fun s t => jFr ms_cAna_caseWithout fs_cAna_caseWithout σ0 (s.2.2.2.2) → fkI ms_cAna_caseWithout fs_cAna_caseWithout σ0 t) (fun s t hs => ?_) _ _ _ h h0
  cases t with
  | inl s1 => exact fun b hb hf => hb (f_cAna_caseWithout_5_s σ0 (s.1) (s.2.1) (s.2.2.1) (s.2.2.2.1) (s.2.2.2.2) hf _ hs)
  | inr b => exact fun hf => f_cAna_caseWithout_5_s σ0 (s.1) (s.2.1) (s.2.2.1) (s.2.2.2.1) (s.2.2.2.2) hf _ hs
theorem f_cAna_caseWithout (σ0 : jx_S) (x1 : Int32) (x2 : Int32) (σ : jx_S) (h0 : jFr ms_cAna_caseWithout fs_cAna_caseWithout σ0 σ) (t : (Int32 × jx_S)) (h : p_cAna_caseWithout x1 x2 σ = some t) : fkI ms_cAna_caseWithout fs_cAna_caseWithout σ0 t := by
  unfold p_cAna_caseWithout at h
  exact f_cAna_caseWithout_5 σ0 x1 x2 (0 : Int32) (0 : Int32) σ h0 _ h
def ms_cFun_setStrict : List Nat := [59]
def fs_cFun_setStrict : List (Nat × Nat) := []
theorem f_cFun_setStrict (σ0 : jx_S) (x1 : Int32) (x2 : Int32) (σ : jx_S) (h0 : jFr ms_cFun_setStrict fs_cFun_setStrict σ0 σ) (t : jx_S) (h : p_cFun_setStrict x1 x2 σ = some t) : fkV ms_cFun_setStrict fs_cFun_setStrict σ0 t := by
  unfold p_cFun_setStrict at h
  have h9 := Option.some.inj h
  subst h9
  exact (jFr.ip h0 (by decide))
def ms_cAna_judgeParameters : List Nat := [59]
def fs_cAna_judgeParameters : List (Nat × Nat) := []
def fk_cAna_judgeParameters_2 (σ0 : jx_S) (t : ((Int32 × Int32 × jx_S) ⊕ jx_S)) : Prop := match t with
  | .inl s => jFr ms_cAna_judgeParameters fs_cAna_judgeParameters σ0 (s.2.2)
  | .inr t => fkV ms_cAna_judgeParameters fs_cAna_judgeParameters σ0 t
theorem f_cAna_judgeParameters_55 (σ0 : jx_S) (x1 : Int32) (x2 : Int32) (σ : jx_S) (h0 : jFr ms_cAna_judgeParameters fs_cAna_judgeParameters σ0 σ) (t : ((Int32 × Int32 × jx_S) ⊕ jx_S)) (h : p_cAna_judgeParameters_55 x1 x2 σ = some t) : fk_cAna_judgeParameters_2 σ0 t := by
  unfold p_cAna_judgeParameters_55 at h
  have h9 := Option.some.inj h
  subst h9
  exact h0
theorem f_cAna_judgeParameters_2_s (σ0 : jx_S) (x1 : Int32) (x2 : Int32) (σ : jx_S) (h0 : jFr ms_cAna_judgeParameters fs_cAna_judgeParameters σ0 σ) (t : ((Int32 × Int32 × jx_S) ⊕ jx_S)) (h : p_cAna_judgeParameters_2_s x1 x2 σ = some t) : fk_cAna_judgeParameters_2 σ0 t := by
  unfold p_cAna_judgeParameters_2_s at h
  rcases Classical.em ((jI_at 40 (σ.1 43) x1) ≤ x2) with hc | hc
  · rw [if_pos hc] at h
    obtain ⟨t9_1, h9_1, h8_1⟩ := Option.map_eq_some_iff.mp h
    clear h
    subst h8_1
    have h := h9_1
    clear h9_1
    have h9 := Option.some.inj h
    subst h9
    exact h0
  · rw [if_neg hc] at h
    rcases Classical.em ((v_cTyp_isBase (v_cFun_typeOf x1 x2 σ) σ) = 0) with hc | hc
    · rw [if_pos hc] at h
      exact f_cAna_judgeParameters_55 σ0 x1 x2 σ h0 _ h
    · rw [if_neg hc] at h
      obtain ⟨q2, hq, h⟩ := Option.bind_eq_some_iff.mp h
      have f_q2 := jFr.step h0 (f_cAna_caseWithout σ x1 x2 σ jFr.rfl q2 hq) (by decide +kernel) (by decide +kernel)
      rcases Classical.em (¬ (v_cAna_pointOfCase x1 q2.1 q2.2) = 0) with hc | hc
      · rw [if_pos hc] at h
        exact f_cAna_judgeParameters_55 σ0 x1 x2 q2.2 f_q2 _ h
      · rw [if_neg hc] at h
        obtain ⟨q3, hq, h⟩ := Option.bind_eq_some_iff.mp h
        have f_q3 := jFr.step f_q2 (f_cFun_setStrict q2.2 x1 x2 q2.2 jFr.rfl q3 hq) (by decide +kernel) (by decide +kernel)
        exact f_cAna_judgeParameters_55 σ0 x1 x2 q3 f_q3 _ h
theorem f_cAna_judgeParameters_2 (σ0 : jx_S) (x1 : Int32) (x2 : Int32) (σ : jx_S) (h0 : jFr ms_cAna_judgeParameters fs_cAna_judgeParameters σ0 σ) (t : jx_S) (h : p_cAna_judgeParameters_2 x1 x2 σ = some t) : fkV ms_cAna_judgeParameters fs_cAna_judgeParameters σ0 t := by
  refine jx_loop_ok (E := fun s t => jFr ms_cAna_judgeParameters fs_cAna_judgeParameters σ0 (s.2.2) → fkV ms_cAna_judgeParameters fs_cAna_judgeParameters σ0 t) (fun s t hs => ?_) _ _ _ h h0
  cases t with
  | inl s1 => exact fun b hb hf => hb (f_cAna_judgeParameters_2_s σ0 (s.1) (s.2.1) (s.2.2) hf _ hs)
  | inr b => exact fun hf => f_cAna_judgeParameters_2_s σ0 (s.1) (s.2.1) (s.2.2) hf _ hs
theorem f_cAna_judgeParameters (σ0 : jx_S) (x1 : Int32) (σ : jx_S) (h0 : jFr ms_cAna_judgeParameters fs_cAna_judgeParameters σ0 σ) (t : jx_S) (h : p_cAna_judgeParameters x1 σ = some t) : fkV ms_cAna_judgeParameters fs_cAna_judgeParameters σ0 t := by
  unfold p_cAna_judgeParameters at h
  exact f_cAna_judgeParameters_2 σ0 x1 (0 : Int32) σ h0 _ h
def ms_cAna_judgeLets : List Nat := [39, 67, 69]
def fs_cAna_judgeLets : List (Nat × Nat) := []
def fk_cAna_judgeLets_12 (σ0 : jx_S) (t : ((Int32 × Int32 × jx_S) ⊕ jx_S)) : Prop := match t with
  | .inl s => jFr ms_cAna_judgeLets fs_cAna_judgeLets σ0 (s.2.2)
  | .inr t => fkV ms_cAna_judgeLets fs_cAna_judgeLets σ0 t
theorem f_cAna_judgeLets_114 (σ0 : jx_S) (x1 : Int32) (x2 : Int32) (σ : jx_S) (h0 : jFr ms_cAna_judgeLets fs_cAna_judgeLets σ0 σ) (t : ((Int32 × Int32 × jx_S) ⊕ jx_S)) (h : p_cAna_judgeLets_114 x1 x2 σ = some t) : fk_cAna_judgeLets_12 σ0 t := by
  unfold p_cAna_judgeLets_114 at h
  have h9 := Option.some.inj h
  subst h9
  exact h0
theorem f_cAna_judgeLets_12_s (σ0 : jx_S) (x1 : Int32) (x2 : Int32) (σ : jx_S) (h0 : jFr ms_cAna_judgeLets fs_cAna_judgeLets σ0 σ) (t : ((Int32 × Int32 × jx_S) ⊕ jx_S)) (h : p_cAna_judgeLets_12_s x1 x2 σ = some t) : fk_cAna_judgeLets_12 σ0 t := by
  unfold p_cAna_judgeLets_12_s at h
  rcases Classical.em ((jI_at 40 (σ.1 51) x1) < x2) with hc | hc
  · rw [if_pos hc] at h
    obtain ⟨t9_1, h9_1, h8_1⟩ := Option.map_eq_some_iff.mp h
    clear h
    subst h8_1
    have h := h9_1
    clear h9_1
    have h9 := Option.some.inj h
    subst h9
    exact h0
  · rw [if_neg hc] at h
    rcases Classical.em (¬ (jI_at 1201 (σ.1 23) x2) = (5 : Int32)) with hc | hc
    · rw [if_pos hc] at h
      exact f_cAna_judgeLets_114 σ0 x1 x2 σ h0 _ h
    · rw [if_neg hc] at h
      obtain ⟨q2, hq, h⟩ := Option.bind_eq_some_iff.mp h
      have f_q2 := jFr.step h0 (f_cAna_bindGreatest σ x1 σ jFr.rfl q2 hq) (by decide +kernel) (by decide +kernel)
      obtain ⟨q3, hq, h⟩ := Option.bind_eq_some_iff.mp h
      have f_q3 := jFr.step (jFr.ip f_q2 (by decide)) (f_cAna_pointBetween (jI_put 30 q2 69 (jI_at 1201 (q2.1 33) x2) (0 : Int32)) x1 ((jI_at 1201 (σ.1 27) x2) + (1 : Int32)) (jI_at 1201 (q2.1 29) (jI_at 1201 (σ.1 27) x2)) (jI_put 30 q2 69 (jI_at 1201 (q2.1 33) x2) (0 : Int32)) jFr.rfl q3 hq) (by decide +kernel) (by decide +kernel)
      exact f_cAna_judgeLets_114 σ0 x1 x2 (jI_put 1201 q3.2 39 x2 ((1 : Int32) - q3.1)) (jFr.ip f_q3 (by decide)) _ h
theorem f_cAna_judgeLets_12 (σ0 : jx_S) (x1 : Int32) (x2 : Int32) (σ : jx_S) (h0 : jFr ms_cAna_judgeLets fs_cAna_judgeLets σ0 σ) (t : jx_S) (h : p_cAna_judgeLets_12 x1 x2 σ = some t) : fkV ms_cAna_judgeLets fs_cAna_judgeLets σ0 t := by
  refine jx_loop_ok (E := fun s t => jFr ms_cAna_judgeLets fs_cAna_judgeLets σ0 (s.2.2) → fkV ms_cAna_judgeLets fs_cAna_judgeLets σ0 t) (fun s t hs => ?_) _ _ _ h h0
  cases t with
  | inl s1 => exact fun b hb hf => hb (f_cAna_judgeLets_12_s σ0 (s.1) (s.2.1) (s.2.2) hf _ hs)
  | inr b => exact fun hf => f_cAna_judgeLets_12_s σ0 (s.1) (s.2.1) (s.2.2) hf _ hs
theorem f_cAna_judgeLets (σ0 : jx_S) (x1 : Int32) (σ : jx_S) (h0 : jFr ms_cAna_judgeLets fs_cAna_judgeLets σ0 σ) (t : jx_S) (h : p_cAna_judgeLets x1 σ = some t) : fkV ms_cAna_judgeLets fs_cAna_judgeLets σ0 t := by
  unfold p_cAna_judgeLets at h
  exact f_cAna_judgeLets_12 σ0 x1 (jI_at 40 (σ.1 49) x1) σ h0 _ h
def ms_cAna_analyse : List Nat := [39, 59, 63, 65, 67, 69]
def fs_cAna_analyse : List (Nat × Nat) := [(7, 6)]
def fk_cAna_analyse_16 (σ0 : jx_S) (t : ((Int32 × Int32 × jx_S) ⊕ jx_S)) : Prop := match t with
  | .inl s => jFr ms_cAna_analyse fs_cAna_analyse σ0 (s.2.2)
  | .inr t => fkV ms_cAna_analyse fs_cAna_analyse σ0 t
def fk_cAna_analyse_100 (σ0 : jx_S) (t : ((Int32 × jx_S) ⊕ jx_S)) : Prop := match t with
  | .inl s => jFr ms_cAna_analyse fs_cAna_analyse σ0 (s.2)
  | .inr t => fkV ms_cAna_analyse fs_cAna_analyse σ0 t
theorem f_cAna_analyse_100_s (σ0 : jx_S) (x3 : Int32) (σ : jx_S) (h0 : jFr ms_cAna_analyse fs_cAna_analyse σ0 σ) (t : ((Int32 × jx_S) ⊕ jx_S)) (h : p_cAna_analyse_100_s x3 σ = some t) : fk_cAna_analyse_100 σ0 t := by
  unfold p_cAna_analyse_100_s at h
  rcases Classical.em ((σ.1 4 10) ≤ x3) with hc | hc
  · rw [if_pos hc] at h
    obtain ⟨t9_2, h9_2, h8_2⟩ := Option.map_eq_some_iff.mp h
    clear h
    subst h8_2
    have h := h9_2
    clear h9_2
    have h9 := Option.some.inj h
    subst h9
    exact h0
  · rw [if_neg hc] at h
    obtain ⟨q3, hq, h⟩ := Option.bind_eq_some_iff.mp h
    have f_q3 := jFr.step h0 (f_cAna_judgeParameters σ x3 σ jFr.rfl q3 hq) (by decide +kernel) (by decide +kernel)
    obtain ⟨q4, hq, h⟩ := Option.bind_eq_some_iff.mp h
    have f_q4 := jFr.step f_q3 (f_cAna_judgeLets q3 x3 q3 jFr.rfl q4 hq) (by decide +kernel) (by decide +kernel)
    have h9 := Option.some.inj h
    subst h9
    exact f_q4
theorem f_cAna_analyse_100 (σ0 : jx_S) (x3 : Int32) (σ : jx_S) (h0 : jFr ms_cAna_analyse fs_cAna_analyse σ0 σ) (t : jx_S) (h : p_cAna_analyse_100 x3 σ = some t) : fkV ms_cAna_analyse fs_cAna_analyse σ0 t := by
  refine jx_loop_ok (E := fun s t => jFr ms_cAna_analyse fs_cAna_analyse σ0 (s.2) → fkV ms_cAna_analyse fs_cAna_analyse σ0 t) (fun s t hs => ?_) _ _ _ h h0
  cases t with
  | inl s1 => exact fun b hb hf => hb (f_cAna_analyse_100_s σ0 (s.1) (s.2) hf _ hs)
  | inr b => exact fun hf => f_cAna_analyse_100_s σ0 (s.1) (s.2) hf _ hs
theorem f_cAna_analyse_98 (σ0 : jx_S) (σ : jx_S) (h0 : jFr ms_cAna_analyse fs_cAna_analyse σ0 σ) (t : jx_S) (h : p_cAna_analyse_98 σ = some t) : fkV ms_cAna_analyse fs_cAna_analyse σ0 t := by
  unfold p_cAna_analyse_98 at h
  exact f_cAna_analyse_100 σ0 (0 : Int32) σ h0 _ h
def fk_cAna_analyse_41 (σ0 : jx_S) (t : ((Int32 × Int32 × Int32 × jx_S) ⊕ ((Int32 × Int32 × jx_S) ⊕ jx_S))) : Prop := match t with
  | .inl s => jFr ms_cAna_analyse fs_cAna_analyse σ0 (s.2.2.2)
  | .inr t => fk_cAna_analyse_16 σ0 t
theorem f_cAna_analyse_86 (σ0 : jx_S) (x2 : Int32) (x3 : Int32) (x4 : Int32) (σ : jx_S) (h0 : jFr ms_cAna_analyse fs_cAna_analyse σ0 σ) (t : ((Int32 × Int32 × Int32 × jx_S) ⊕ ((Int32 × Int32 × jx_S) ⊕ jx_S))) (h : p_cAna_analyse_86 x2 x3 x4 σ = some t) : fk_cAna_analyse_41 σ0 t := by
  unfold p_cAna_analyse_86 at h
  have h9 := Option.some.inj h
  subst h9
  exact h0
theorem f_cAna_analyse_41_s (σ0 : jx_S) (x2 : Int32) (x3 : Int32) (x4 : Int32) (σ : jx_S) (h0 : jFr ms_cAna_analyse fs_cAna_analyse σ0 σ) (t : ((Int32 × Int32 × Int32 × jx_S) ⊕ ((Int32 × Int32 × jx_S) ⊕ jx_S))) (h : p_cAna_analyse_41_s x2 x3 x4 σ = some t) : fk_cAna_analyse_41 σ0 t := by
  unfold p_cAna_analyse_41_s at h
  rcases Classical.em ((σ.1 4 10) ≤ x4) with hc | hc
  · rw [if_pos hc] at h
    obtain ⟨t9_7, h9_7, h8_7⟩ := Option.map_eq_some_iff.mp h
    clear h
    subst h8_7
    have h := h9_7
    clear h9_7
    have h9 := Option.some.inj h
    subst h9
    exact h0
  · rw [if_neg hc] at h
    obtain ⟨q8, hq, h⟩ := Option.bind_eq_some_iff.mp h
    have f_q8 := jFr.step h0 (f_cAna_mayChange σ x4 σ jFr.rfl q8 hq) (by decide +kernel) (by decide +kernel)
    rcases Classical.em (q8.1 = 0) with hc | hc
    · rw [if_pos hc] at h
      exact f_cAna_analyse_86 σ0 x2 x3 x4 q8.2 f_q8 _ h
    · rw [if_neg hc] at h
      obtain ⟨q9, hq, h⟩ := Option.bind_eq_some_iff.mp h
      have f_q9 := jFr.step f_q8 (f_cAna_raiseCases q8.2 x4 q8.2 jFr.rfl q9 hq) (by decide +kernel) (by decide +kernel)
      rcases Classical.em (q9.1 = 0) with hc | hc
      · rw [if_pos hc] at h
        exact f_cAna_analyse_86 σ0 x2 x3 x4 q9.2 f_q9 _ h
      · rw [if_neg hc] at h
        exact f_cAna_analyse_86 σ0 (1 : Int32) x3 x4 (jI_put 40 q9.2 65 x4 (q9.2.1 7 6)) (jFr.ip f_q9 (by decide)) _ h
theorem f_cAna_analyse_41 (σ0 : jx_S) (x2 : Int32) (x3 : Int32) (x4 : Int32) (σ : jx_S) (h0 : jFr ms_cAna_analyse fs_cAna_analyse σ0 σ) (t : ((Int32 × Int32 × jx_S) ⊕ jx_S)) (h : p_cAna_analyse_41 x2 x3 x4 σ = some t) : fk_cAna_analyse_16 σ0 t := by
  refine jx_loop_ok (E := fun s t => jFr ms_cAna_analyse fs_cAna_analyse σ0 (s.2.2.2) → fk_cAna_analyse_16 σ0 t) (fun s t hs => ?_) _ _ _ h h0
  cases t with
  | inl s1 => exact fun b hb hf => hb (f_cAna_analyse_41_s σ0 (s.1) (s.2.1) (s.2.2.1) (s.2.2.2) hf _ hs)
  | inr b => exact fun hf => f_cAna_analyse_41_s σ0 (s.1) (s.2.1) (s.2.2.1) (s.2.2.2) hf _ hs
theorem f_cAna_analyse_16_s (σ0 : jx_S) (x2 : Int32) (x3 : Int32) (σ : jx_S) (h0 : jFr ms_cAna_analyse fs_cAna_analyse σ0 σ) (t : ((Int32 × Int32 × jx_S) ⊕ jx_S)) (h : p_cAna_analyse_16_s x2 x3 σ = some t) : fk_cAna_analyse_16 σ0 t := by
  unfold p_cAna_analyse_16_s at h
  rcases Classical.em ((40000 : Int32) < x3) with hc | hc
  · rw [if_pos hc] at h
    obtain ⟨t9_5, h9_5, h8_5⟩ := Option.map_eq_some_iff.mp h
    clear h
    subst h8_5
    have h := h9_5
    clear h9_5
    exact f_cAna_analyse_98 σ0 σ h0 _ h
  · rw [if_neg hc] at h
    rcases Classical.em (x2 = 0) with hc | hc
    · rw [if_pos hc] at h
      obtain ⟨t9_6, h9_6, h8_6⟩ := Option.map_eq_some_iff.mp h
      clear h
      subst h8_6
      have h := h9_6
      clear h9_6
      exact f_cAna_analyse_98 σ0 σ h0 _ h
    · rw [if_neg hc] at h
      exact f_cAna_analyse_41 σ0 (0 : Int32) x3 (0 : Int32) (jx_i σ 7 6 ((σ.1 7 6) + (1 : Int32))) (jFr.i h0 (by decide)) _ h
theorem f_cAna_analyse_16 (σ0 : jx_S) (x2 : Int32) (x3 : Int32) (σ : jx_S) (h0 : jFr ms_cAna_analyse fs_cAna_analyse σ0 σ) (t : jx_S) (h : p_cAna_analyse_16 x2 x3 σ = some t) : fkV ms_cAna_analyse fs_cAna_analyse σ0 t := by
  refine jx_loop_ok (E := fun s t => jFr ms_cAna_analyse fs_cAna_analyse σ0 (s.2.2) → fkV ms_cAna_analyse fs_cAna_analyse σ0 t) (fun s t hs => ?_) _ _ _ h h0
  cases t with
  | inl s1 => exact fun b hb hf => hb (f_cAna_analyse_16_s σ0 (s.1) (s.2.1) (s.2.2) hf _ hs)
  | inr b => exact fun hf => f_cAna_analyse_16_s σ0 (s.1) (s.2.1) (s.2.2) hf _ hs
theorem f_cAna_analyse (σ0 : jx_S) (σ : jx_S) (h0 : jFr ms_cAna_analyse fs_cAna_analyse σ0 σ) (t : jx_S) (h : p_cAna_analyse σ = some t) : fkV ms_cAna_analyse fs_cAna_analyse σ0 t := by
  unfold p_cAna_analyse at h
  rcases Classical.em ((v_cFau_isTold σ) = 0) with hc | hc
  · rw [if_pos hc] at h
    obtain ⟨q1, hq, h⟩ := Option.bind_eq_some_iff.mp h
    have f_q1 := jFr.step h0 (f_cAna_clear σ σ jFr.rfl q1 hq) (by decide +kernel) (by decide +kernel)
    exact f_cAna_analyse_16 σ0 (1 : Int32) (0 : Int32) q1 f_q1 _ h
  · rw [if_neg hc] at h
    have h9 := Option.some.inj h
    subst h9
    exact h0
def ms_cl_compile : List Nat := [15, 17, 19, 23, 25, 27, 29, 31, 33, 35, 37, 39, 41, 43, 45, 47, 49, 51, 53, 55, 57, 59, 61, 63, 65, 67, 69]
def fs_cl_compile : List (Nat × Nat) := [(0, 12), (1, 0), (1, 1), (2, 4), (3, 9), (4, 10), (5, 5), (5, 6), (5, 7), (7, 6)]
theorem f_cl_compile_63 (σ0 : jx_S) (σ : jx_S) (h0 : jFr ms_cl_compile fs_cl_compile σ0 σ) (t : (Int32 × jx_S)) (h : p_cl_compile_63 σ = some t) : fkI ms_cl_compile fs_cl_compile σ0 t := by
  unfold p_cl_compile_63 at h
  rcases Classical.em ((v_cFau_isTold σ) = 0) with hc | hc
  · rw [if_pos hc] at h
    have h9 := Option.some.inj h
    subst h9
    exact h0
  · rw [if_neg hc] at h
    have h9 := Option.some.inj h
    subst h9
    exact h0
theorem f_cl_compile (σ0 : jx_S) (σ : jx_S) (h0 : jFr ms_cl_compile fs_cl_compile σ0 σ) (t : (Int32 × jx_S)) (h : p_cl_compile σ = some t) : fkI ms_cl_compile fs_cl_compile σ0 t := by
  unfold p_cl_compile at h
  rcases Classical.em (¬ (σ.1 0 12) = 0) with hc | hc
  · rw [if_pos hc] at h
    exact f_cl_compile_63 σ0 σ h0 _ h
  · rw [if_neg hc] at h
    obtain ⟨q1, hq, h⟩ := Option.bind_eq_some_iff.mp h
    have f_q1 := jFr.step (jFr.i h0 (by decide)) (f_cFau_clear (jx_i σ 0 12 (1 : Int32)) (jx_i σ 0 12 (1 : Int32)) jFr.rfl q1 hq) (by decide +kernel) (by decide +kernel)
    obtain ⟨q2, hq, h⟩ := Option.bind_eq_some_iff.mp h
    have f_q2 := jFr.step f_q1 (f_cTok_split q1 (q1.1 0 10) q1 jFr.rfl q2 hq) (by decide +kernel) (by decide +kernel)
    obtain ⟨q3, hq, h⟩ := Option.bind_eq_some_iff.mp h
    have f_q3 := jFr.step f_q2 (f_cRea_readProgram q2 q2 jFr.rfl q3 hq) (by decide +kernel) (by decide +kernel)
    obtain ⟨q4, hq, h⟩ := Option.bind_eq_some_iff.mp h
    have f_q4 := jFr.step f_q3 (f_cTyp_check q3 q3 jFr.rfl q4 hq) (by decide +kernel) (by decide +kernel)
    obtain ⟨q5, hq, h⟩ := Option.bind_eq_some_iff.mp h
    have f_q5 := jFr.step f_q4 (f_cAna_analyse q4 q4 jFr.rfl q5 hq) (by decide +kernel) (by decide +kernel)
    exact f_cl_compile_63 σ0 q5 f_q5 _ h
def ms_cAna_countLets : List Nat := []
def fs_cAna_countLets : List (Nat × Nat) := []
def fk_cAna_countLets_15 (σ0 : jx_S) (t : ((Int32 × Int32 × Int32 × Int32 × jx_S) ⊕ (Int32 × jx_S))) : Prop := match t with
  | .inl s => jFr ms_cAna_countLets fs_cAna_countLets σ0 (s.2.2.2.2)
  | .inr t => fkI ms_cAna_countLets fs_cAna_countLets σ0 t
theorem f_cAna_countLets_70 (σ0 : jx_S) (x1 : Int32) (x2 : Int32) (x3 : Int32) (x4 : Int32) (σ : jx_S) (h0 : jFr ms_cAna_countLets fs_cAna_countLets σ0 σ) (t : ((Int32 × Int32 × Int32 × Int32 × jx_S) ⊕ (Int32 × jx_S))) (h : p_cAna_countLets_70 x1 x2 x3 x4 σ = some t) : fk_cAna_countLets_15 σ0 t := by
  unfold p_cAna_countLets_70 at h
  have h9 := Option.some.inj h
  subst h9
  exact h0
theorem f_cAna_countLets_67 (σ0 : jx_S) (x1 : Int32) (x2 : Int32) (x3 : Int32) (x4 : Int32) (σ : jx_S) (h0 : jFr ms_cAna_countLets fs_cAna_countLets σ0 σ) (t : ((Int32 × Int32 × Int32 × Int32 × jx_S) ⊕ (Int32 × jx_S))) (h : p_cAna_countLets_67 x1 x2 x3 x4 σ = some t) : fk_cAna_countLets_15 σ0 t := by
  unfold p_cAna_countLets_67 at h
  exact f_cAna_countLets_70 σ0 x1 x2 (x3 + 1) x4 σ h0 _ h
theorem f_cAna_countLets_15_s (σ0 : jx_S) (x1 : Int32) (x2 : Int32) (x3 : Int32) (x4 : Int32) (σ : jx_S) (h0 : jFr ms_cAna_countLets fs_cAna_countLets σ0 σ) (t : ((Int32 × Int32 × Int32 × Int32 × jx_S) ⊕ (Int32 × jx_S))) (h : p_cAna_countLets_15_s x1 x2 x3 x4 σ = some t) : fk_cAna_countLets_15 σ0 t := by
  unfold p_cAna_countLets_15_s at h
  rcases Classical.em ((jI_at 40 (σ.1 51) x1) < x4) with hc | hc
  · rw [if_pos hc] at h
    obtain ⟨t9_1, h9_1, h8_1⟩ := Option.map_eq_some_iff.mp h
    clear h
    subst h8_1
    have h := h9_1
    clear h9_1
    have h9 := Option.some.inj h
    subst h9
    exact h0
  · rw [if_neg hc] at h
    rcases Classical.em (¬ (jI_at 1201 (σ.1 23) x4) = (5 : Int32)) with hc | hc
    · rw [if_pos hc] at h
      exact f_cAna_countLets_70 σ0 x1 x2 x3 x4 σ h0 _ h
    · rw [if_neg hc] at h
      rcases Classical.em (x2 = 0) with hc | hc
      · rw [if_pos hc] at h
        exact f_cAna_countLets_67 σ0 x1 x2 x3 x4 σ h0 _ h
      · rw [if_neg hc] at h
        rcases Classical.em (¬ (jI_at 1201 (σ.1 39) x4) = (1 : Int32)) with hc | hc
        · rw [if_pos hc] at h
          exact f_cAna_countLets_70 σ0 x1 x2 x3 x4 σ h0 _ h
        · rw [if_neg hc] at h
          exact f_cAna_countLets_67 σ0 x1 x2 x3 x4 σ h0 _ h
theorem f_cAna_countLets_15 (σ0 : jx_S) (x1 : Int32) (x2 : Int32) (x3 : Int32) (x4 : Int32) (σ : jx_S) (h0 : jFr ms_cAna_countLets fs_cAna_countLets σ0 σ) (t : (Int32 × jx_S)) (h : p_cAna_countLets_15 x1 x2 x3 x4 σ = some t) : fkI ms_cAna_countLets fs_cAna_countLets σ0 t := by
  refine jx_loop_ok (E := fun s t => jFr ms_cAna_countLets fs_cAna_countLets σ0 (s.2.2.2.2) → fkI ms_cAna_countLets fs_cAna_countLets σ0 t) (fun s t hs => ?_) _ _ _ h h0
  cases t with
  | inl s1 => exact fun b hb hf => hb (f_cAna_countLets_15_s σ0 (s.1) (s.2.1) (s.2.2.1) (s.2.2.2.1) (s.2.2.2.2) hf _ hs)
  | inr b => exact fun hf => f_cAna_countLets_15_s σ0 (s.1) (s.2.1) (s.2.2.1) (s.2.2.2.1) (s.2.2.2.2) hf _ hs
theorem f_cAna_countLets (σ0 : jx_S) (x1 : Int32) (x2 : Int32) (σ : jx_S) (h0 : jFr ms_cAna_countLets fs_cAna_countLets σ0 σ) (t : (Int32 × jx_S)) (h : p_cAna_countLets x1 x2 σ = some t) : fkI ms_cAna_countLets fs_cAna_countLets σ0 t := by
  unfold p_cAna_countLets at h
  exact f_cAna_countLets_15 σ0 x1 x2 (0 : Int32) (jI_at 40 (σ.1 49) x1) σ h0 _ h
def ms_cl_function : List Nat := []
def fs_cl_function : List (Nat × Nat) := []
theorem f_cl_function (σ0 : jx_S) (x1 : Int32) (x2 : Int32) (σ : jx_S) (h0 : jFr ms_cl_function fs_cl_function σ0 σ) (t : (Int32 × jx_S)) (h : p_cl_function x1 x2 σ = some t) : fkI ms_cl_function fs_cl_function σ0 t := by
  unfold p_cl_function at h
  rcases Classical.em ((v_cl_hasFunction x1 σ) = 0) with hc | hc
  · rw [if_pos hc] at h
    cases h
  · rw [if_neg hc] at h
    rcases Classical.em (x2 < 0) with hc | hc
    · rw [if_pos hc] at h
      cases h
    · rw [if_neg hc] at h
      rcases Classical.em (x2 ≤ (6 : Int32)) with hc | hc
      · rw [if_pos hc] at h
        rcases Classical.em (x2 = 0) with hc0 | hc0
        · rw [if_pos hc0] at h
          have h9 := Option.some.inj h
          subst h9
          exact h0
        · rw [if_neg hc0] at h
          rcases Classical.em (x2 = 1) with hc1 | hc1
          · rw [if_pos hc1] at h
            have h9 := Option.some.inj h
            subst h9
            exact h0
          · rw [if_neg hc1] at h
            rcases Classical.em (x2 = 2) with hc2 | hc2
            · rw [if_pos hc2] at h
              have h9 := Option.some.inj h
              subst h9
              exact h0
            · rw [if_neg hc2] at h
              rcases Classical.em (x2 = 3) with hc3 | hc3
              · rw [if_pos hc3] at h
                have h9 := Option.some.inj h
                subst h9
                exact h0
              · rw [if_neg hc3] at h
                rcases Classical.em (x2 = 4) with hc4 | hc4
                · rw [if_pos hc4] at h
                  obtain ⟨q1, hq, h⟩ := Option.bind_eq_some_iff.mp h
                  have f_q1 := jFr.step h0 (f_cAna_countLets σ x1 (0 : Int32) σ jFr.rfl q1 hq) (by decide +kernel) (by decide +kernel)
                  have h9 := Option.some.inj h
                  subst h9
                  exact f_q1
                · rw [if_neg hc4] at h
                  rcases Classical.em (x2 = 5) with hc5 | hc5
                  · rw [if_pos hc5] at h
                    obtain ⟨q2, hq, h⟩ := Option.bind_eq_some_iff.mp h
                    have f_q2 := jFr.step h0 (f_cAna_countLets σ x1 (1 : Int32) σ jFr.rfl q2 hq) (by decide +kernel) (by decide +kernel)
                    have h9 := Option.some.inj h
                    subst h9
                    exact f_q2
                  · rw [if_neg hc5] at h
                    have h9 := Option.some.inj h
                    subst h9
                    exact h0
      · rw [if_neg hc] at h
        cases h
def ms_cl_parameter : List Nat := []
def fs_cl_parameter : List (Nat × Nat) := []
theorem f_cl_parameter (σ0 : jx_S) (x1 : Int32) (x2 : Int32) (x3 : Int32) (σ : jx_S) (h0 : jFr ms_cl_parameter fs_cl_parameter σ0 σ) (t : (Int32 × jx_S)) (h : p_cl_parameter x1 x2 x3 σ = some t) : fkI ms_cl_parameter fs_cl_parameter σ0 t := by
  unfold p_cl_parameter at h
  rcases Classical.em ((v_cl_hasFunction x1 σ) = 0) with hc | hc
  · rw [if_pos hc] at h
    cases h
  · rw [if_neg hc] at h
    rcases Classical.em (x2 < 0) with hc | hc
    · rw [if_pos hc] at h
      cases h
    · rw [if_neg hc] at h
      rcases Classical.em ((jI_at 40 (σ.1 43) x1) ≤ x2) with hc | hc
      · rw [if_pos hc] at h
        cases h
      · rw [if_neg hc] at h
        rcases Classical.em (x3 < 0) with hc | hc
        · rw [if_pos hc] at h
          cases h
        · rw [if_neg hc] at h
          rcases Classical.em (x3 ≤ (1 : Int32)) with hc | hc
          · rw [if_pos hc] at h
            rcases Classical.em (¬ x3 = 0) with hc | hc
            · rw [if_pos hc] at h
              have h9 := Option.some.inj h
              subst h9
              exact h0
            · rw [if_neg hc] at h
              have h9 := Option.some.inj h
              subst h9
              exact h0
          · rw [if_neg hc] at h
            cases h
def ms_cl_value : List Nat := []
def fs_cl_value : List (Nat × Nat) := []
theorem f_cl_value (σ0 : jx_S) (x1 : Int32) (x2 : Int32) (σ : jx_S) (h0 : jFr ms_cl_value fs_cl_value σ0 σ) (t : (Int32 × jx_S)) (h : p_cl_value x1 x2 σ = some t) : fkI ms_cl_value fs_cl_value σ0 t := by
  unfold p_cl_value at h
  rcases Classical.em ((v_cl_hasFunction x1 σ) = 0) with hc | hc
  · rw [if_pos hc] at h
    cases h
  · rw [if_neg hc] at h
    rcases Classical.em (x2 < 0) with hc | hc
    · rw [if_pos hc] at h
      cases h
    · rw [if_neg hc] at h
      rcases Classical.em (x2 < (jI_at 40 (σ.1 53) x1)) with hc | hc
      · rw [if_pos hc] at h
        have h9 := Option.some.inj h
        subst h9
        exact h0
      · rw [if_neg hc] at h
        cases h
def ms_cl_isStrict : List Nat := []
def fs_cl_isStrict : List (Nat × Nat) := []
def fk_cl_isStrict_11 (σ0 : jx_S) (t : ((Int32 × Int32 × jx_S) ⊕ (Int32 × jx_S))) : Prop := match t with
  | .inl s => jFr ms_cl_isStrict fs_cl_isStrict σ0 (s.2.2)
  | .inr t => fkI ms_cl_isStrict fs_cl_isStrict σ0 t
theorem f_cl_isStrict_74 (σ0 : jx_S) (x1 : Int32) (x2 : Int32) (σ : jx_S) (h0 : jFr ms_cl_isStrict fs_cl_isStrict σ0 σ) (t : ((Int32 × Int32 × jx_S) ⊕ (Int32 × jx_S))) (h : p_cl_isStrict_74 x1 x2 σ = some t) : fk_cl_isStrict_11 σ0 t := by
  unfold p_cl_isStrict_74 at h
  have h9 := Option.some.inj h
  subst h9
  exact h0
theorem f_cl_isStrict_11_s (σ0 : jx_S) (x1 : Int32) (x2 : Int32) (σ : jx_S) (h0 : jFr ms_cl_isStrict fs_cl_isStrict σ0 σ) (t : ((Int32 × Int32 × jx_S) ⊕ (Int32 × jx_S))) (h : p_cl_isStrict_11_s x1 x2 σ = some t) : fk_cl_isStrict_11 σ0 t := by
  unfold p_cl_isStrict_11_s at h
  rcases Classical.em ((σ.1 3 9) < x2) with hc | hc
  · rw [if_pos hc] at h
    obtain ⟨t9_1, h9_1, h8_1⟩ := Option.map_eq_some_iff.mp h
    clear h
    subst h8_1
    have h := h9_1
    clear h9_1
    have h9 := Option.some.inj h
    subst h9
    exact h0
  · rw [if_neg hc] at h
    rcases Classical.em (¬ (jI_at 1201 (σ.1 23) x2) = (5 : Int32)) with hc | hc
    · rw [if_pos hc] at h
      exact f_cl_isStrict_74 σ0 x1 x2 σ h0 _ h
    · rw [if_neg hc] at h
      rcases Classical.em (¬ (jI_at 1201 (σ.1 17) (jI_at 1201 (σ.1 25) x2)) = x1) with hc | hc
      · rw [if_pos hc] at h
        exact f_cl_isStrict_74 σ0 x1 x2 σ h0 _ h
      · rw [if_neg hc] at h
        obtain ⟨t9_2, h9_2, h8_2⟩ := Option.map_eq_some_iff.mp h
        clear h
        subst h8_2
        have h := h9_2
        clear h9_2
        have h9 := Option.some.inj h
        subst h9
        exact h0
theorem f_cl_isStrict_11 (σ0 : jx_S) (x1 : Int32) (x2 : Int32) (σ : jx_S) (h0 : jFr ms_cl_isStrict fs_cl_isStrict σ0 σ) (t : (Int32 × jx_S)) (h : p_cl_isStrict_11 x1 x2 σ = some t) : fkI ms_cl_isStrict fs_cl_isStrict σ0 t := by
  refine jx_loop_ok (E := fun s t => jFr ms_cl_isStrict fs_cl_isStrict σ0 (s.2.2) → fkI ms_cl_isStrict fs_cl_isStrict σ0 t) (fun s t hs => ?_) _ _ _ h h0
  cases t with
  | inl s1 => exact fun b hb hf => hb (f_cl_isStrict_11_s σ0 (s.1) (s.2.1) (s.2.2) hf _ hs)
  | inr b => exact fun hf => f_cl_isStrict_11_s σ0 (s.1) (s.2.1) (s.2.2) hf _ hs
theorem f_cl_isStrict (σ0 : jx_S) (x1 : Int32) (σ : jx_S) (h0 : jFr ms_cl_isStrict fs_cl_isStrict σ0 σ) (t : (Int32 × jx_S)) (h : p_cl_isStrict x1 σ = some t) : fkI ms_cl_isStrict fs_cl_isStrict σ0 t := by
  unfold p_cl_isStrict at h
  rcases Classical.em (¬ (v_cl_isUsable σ) = 0) with hc | hc
  · rw [if_pos hc] at h
    exact f_cl_isStrict_11 σ0 x1 (1 : Int32) σ h0 _ h
  · rw [if_neg hc] at h
    have h9 := Option.some.inj h
    subst h9
    exact h0
def ms_cl_argument : List Nat := [13]
def fs_cl_argument : List (Nat × Nat) := [(0, 11)]
theorem f_cl_argument (σ0 : jx_S) (x1 : Int32) (σ : jx_S) (h0 : jFr ms_cl_argument fs_cl_argument σ0 σ) (t : (Int32 × jx_S)) (h : p_cl_argument x1 σ = some t) : fkI ms_cl_argument fs_cl_argument σ0 t := by
  unfold p_cl_argument at h
  rcases Classical.em ((σ.1 0 11) < (8 : Int32)) with hc | hc
  · rw [if_pos hc] at h
    have h9 := Option.some.inj h
    subst h9
    exact (jFr.i (jFr.ip h0 (by decide)) (by decide))
  · rw [if_neg hc] at h
    cases h
def ms_cFun_takesInts : List Nat := []
def fs_cFun_takesInts : List (Nat × Nat) := []
def fk_cFun_takesInts_16 (σ0 : jx_S) (t : ((Int32 × Int32 × Int32 × jx_S) ⊕ (Int32 × jx_S))) : Prop := match t with
  | .inl s => jFr ms_cFun_takesInts fs_cFun_takesInts σ0 (s.2.2.2)
  | .inr t => fkI ms_cFun_takesInts fs_cFun_takesInts σ0 t
theorem f_cFun_takesInts_16_s (σ0 : jx_S) (x1 : Int32) (x2 : Int32) (x3 : Int32) (σ : jx_S) (h0 : jFr ms_cFun_takesInts fs_cFun_takesInts σ0 σ) (t : ((Int32 × Int32 × Int32 × jx_S) ⊕ (Int32 × jx_S))) (h : p_cFun_takesInts_16_s x1 x2 x3 σ = some t) : fk_cFun_takesInts_16 σ0 t := by
  unfold p_cFun_takesInts_16_s at h
  rcases Classical.em (x2 ≤ x3) with hc | hc
  · rw [if_pos hc] at h
    obtain ⟨t9_1, h9_1, h8_1⟩ := Option.map_eq_some_iff.mp h
    clear h
    subst h8_1
    have h := h9_1
    clear h9_1
    have h9 := Option.some.inj h
    subst h9
    exact h0
  · rw [if_neg hc] at h
    rcases Classical.em ((v_cFun_typeOf x1 x3 σ) = 0) with hc | hc
    · rw [if_pos hc] at h
      have h9 := Option.some.inj h
      subst h9
      exact h0
    · rw [if_neg hc] at h
      obtain ⟨t9_2, h9_2, h8_2⟩ := Option.map_eq_some_iff.mp h
      clear h
      subst h8_2
      have h := h9_2
      clear h9_2
      have h9 := Option.some.inj h
      subst h9
      exact h0
theorem f_cFun_takesInts_16 (σ0 : jx_S) (x1 : Int32) (x2 : Int32) (x3 : Int32) (σ : jx_S) (h0 : jFr ms_cFun_takesInts fs_cFun_takesInts σ0 σ) (t : (Int32 × jx_S)) (h : p_cFun_takesInts_16 x1 x2 x3 σ = some t) : fkI ms_cFun_takesInts fs_cFun_takesInts σ0 t := by
  refine jx_loop_ok (E := fun s t => jFr ms_cFun_takesInts fs_cFun_takesInts σ0 (s.2.2.2) → fkI ms_cFun_takesInts fs_cFun_takesInts σ0 t) (fun s t hs => ?_) _ _ _ h h0
  cases t with
  | inl s1 => exact fun b hb hf => hb (f_cFun_takesInts_16_s σ0 (s.1) (s.2.1) (s.2.2.1) (s.2.2.2) hf _ hs)
  | inr b => exact fun hf => f_cFun_takesInts_16_s σ0 (s.1) (s.2.1) (s.2.2.1) (s.2.2.2) hf _ hs
theorem f_cFun_takesInts (σ0 : jx_S) (x1 : Int32) (x2 : Int32) (σ : jx_S) (h0 : jFr ms_cFun_takesInts fs_cFun_takesInts σ0 σ) (t : (Int32 × jx_S)) (h : p_cFun_takesInts x1 x2 σ = some t) : fkI ms_cFun_takesInts fs_cFun_takesInts σ0 t := by
  unfold p_cFun_takesInts at h
  rcases Classical.em ((jI_at 40 (σ.1 43) x1) = x2) with hc | hc
  · rw [if_pos hc] at h
    exact f_cFun_takesInts_16 σ0 x1 x2 (0 : Int32) σ h0 _ h
  · rw [if_neg hc] at h
    have h9 := Option.some.inj h
    subst h9
    exact h0
def ms_cHea_clear : List Nat := []
def fs_cHea_clear : List (Nat × Nat) := [(9, 11), (9, 12), (9, 13), (9, 14), (9, 15), (9, 16)]
theorem f_cHea_clear (σ0 : jx_S) (σ : jx_S) (h0 : jFr ms_cHea_clear fs_cHea_clear σ0 σ) (t : jx_S) (h : p_cHea_clear σ = some t) : fkV ms_cHea_clear fs_cHea_clear σ0 t := by
  unfold p_cHea_clear at h
  have h9 := Option.some.inj h
  subst h9
  exact (jFr.i (jFr.i (jFr.i (jFr.i (jFr.i (jFr.i h0 (by decide)) (by decide)) (by decide)) (by decide)) (by decide)) (by decide))
def ms_cMac_begin : List Nat := [71, 75, 77, 79]
def fs_cMac_begin : List (Nat × Nat) := [(8, 11), (8, 14)]
theorem f_cMac_begin (σ0 : jx_S) (x1 : Int32) (x2 : Int32) (σ : jx_S) (h0 : jFr ms_cMac_begin fs_cMac_begin σ0 σ) (t : jx_S) (h : p_cMac_begin x1 x2 σ = some t) : fkV ms_cMac_begin fs_cMac_begin σ0 t := by
  unfold p_cMac_begin at h
  rcases Classical.em (¬ (σ.1 8 11) = (250 : Int32)) with hc | hc
  · rw [if_pos hc] at h
    rcases Classical.em (¬ (jI_at 10 (σ.1 71) (0 : Int32)) = (σ.1 8 12)) with hc | hc
    · rw [if_pos hc] at h
      have h9 := Option.some.inj h
      subst h9
      exact (jFr.ip (jFr.ip (jFr.i (jFr.ip (jFr.ip (jFr.ip h0 (by decide)) (by decide)) (by decide)) (by decide)) (by decide)) (by decide))
    · rw [if_neg hc] at h
      have h9 := Option.some.inj h
      subst h9
      exact (jFr.i h0 (by decide))
  · rw [if_neg hc] at h
    have h9 := Option.some.inj h
    subst h9
    exact (jFr.i h0 (by decide))
def ms_cMac_enter : List Nat := [71, 75, 77, 79, 97]
def fs_cMac_enter : List (Nat × Nat) := [(8, 11), (8, 14), (9, 14)]
def fk_cMac_enter_74 (σ0 : jx_S) (t : ((Int32 × Int32 × Int32 × jx_S) ⊕ jx_S)) : Prop := match t with
  | .inl s => jFr ms_cMac_enter fs_cMac_enter σ0 (s.2.2.2)
  | .inr t => fkV ms_cMac_enter fs_cMac_enter σ0 t
theorem f_cMac_enter_74_s (σ0 : jx_S) (x1 : Int32) (x2 : Int32) (x3 : Int32) (σ : jx_S) (h0 : jFr ms_cMac_enter fs_cMac_enter σ0 σ) (t : ((Int32 × Int32 × Int32 × jx_S) ⊕ jx_S)) (h : p_cMac_enter_74_s x1 x2 x3 σ = some t) : fk_cMac_enter_74 σ0 t := by
  unfold p_cMac_enter_74_s at h
  rcases Classical.em ((jI_at 40 (σ.1 43) x1) ≤ x3) with hc | hc
  · rw [if_pos hc] at h
    obtain ⟨t9_2, h9_2, h8_2⟩ := Option.map_eq_some_iff.mp h
    clear h
    subst h8_2
    have h := h9_2
    clear h9_2
    obtain ⟨q1, hq, h⟩ := Option.bind_eq_some_iff.mp h
    have f_q1 := jFr.step h0 (f_cMac_begin σ (jI_at 40 (σ.1 51) x1) x2 σ jFr.rfl q1 hq) (by decide +kernel) (by decide +kernel)
    have h9 := Option.some.inj h
    subst h9
    exact f_q1
  · rw [if_neg hc] at h
    have h9 := Option.some.inj h
    subst h9
    exact (jFr.lp h0 (by decide))
theorem f_cMac_enter_74 (σ0 : jx_S) (x1 : Int32) (x2 : Int32) (x3 : Int32) (σ : jx_S) (h0 : jFr ms_cMac_enter fs_cMac_enter σ0 σ) (t : jx_S) (h : p_cMac_enter_74 x1 x2 x3 σ = some t) : fkV ms_cMac_enter fs_cMac_enter σ0 t := by
  refine jx_loop_ok (E := fun s t => jFr ms_cMac_enter fs_cMac_enter σ0 (s.2.2.2) → fkV ms_cMac_enter fs_cMac_enter σ0 t) (fun s t hs => ?_) _ _ _ h h0
  cases t with
  | inl s1 => exact fun b hb hf => hb (f_cMac_enter_74_s σ0 (s.1) (s.2.1) (s.2.2.1) (s.2.2.2) hf _ hs)
  | inr b => exact fun hf => f_cMac_enter_74_s σ0 (s.1) (s.2.1) (s.2.2.1) (s.2.2.2) hf _ hs
theorem f_cMac_enter (σ0 : jx_S) (x1 : Int32) (σ : jx_S) (h0 : jFr ms_cMac_enter fs_cMac_enter σ0 σ) (t : jx_S) (h : p_cMac_enter x1 σ = some t) : fkV ms_cMac_enter fs_cMac_enter σ0 t := by
  unfold p_cMac_enter at h
  rcases Classical.em (((σ.1 9 14) + (jI_at 40 (σ.1 47) x1)) ≤ (30000 : Int32)) with hc | hc
  · rw [if_pos hc] at h
    exact f_cMac_enter_74 σ0 x1 (σ.1 9 14) (0 : Int32) (jI_put 10 (jx_i σ 9 14 ((σ.1 9 14) + (jI_at 40 (σ.1 47) x1))) 71 (8 : Int32) (jI_at 10 (σ.1 71) (8 : Int32) + (1 : Int32))) (jFr.ip (jFr.i h0 (by decide)) (by decide)) _ h
  · rw [if_neg hc] at h
    have h9 := Option.some.inj h
    subst h9
    exact (jFr.i h0 (by decide))
def ms_cMac_finish : List Nat := []
def fs_cMac_finish : List (Nat × Nat) := [(8, 11), (8, 15)]
theorem f_cMac_finish (σ0 : jx_S) (x1 : Int64) (σ : jx_S) (h0 : jFr ms_cMac_finish fs_cMac_finish σ0 σ) (t : jx_S) (h : p_cMac_finish x1 σ = some t) : fkV ms_cMac_finish fs_cMac_finish σ0 t := by
  unfold p_cMac_finish at h
  have h9 := Option.some.inj h
  subst h9
  exact (jFr.i (jFr.l h0 (by decide)) (by decide))
def ms_cMac_sizeGot : List Nat := []
def fs_cMac_sizeGot : List (Nat × Nat) := []
def fk_cMac_sizeGot_8 (σ0 : jx_S) (t : ((Int32 × Int64 × Int32 × jx_S) ⊕ (Int32 × jx_S))) : Prop := match t with
  | .inl s => jFr ms_cMac_sizeGot fs_cMac_sizeGot σ0 (s.2.2.2)
  | .inr t => fkI ms_cMac_sizeGot fs_cMac_sizeGot σ0 t
theorem f_cMac_sizeGot_8_s (σ0 : jx_S) (x3 : Int32) (x4 : Int64) (x6 : Int32) (σ : jx_S) (h0 : jFr ms_cMac_sizeGot fs_cMac_sizeGot σ0 σ) (t : ((Int32 × Int64 × Int32 × jx_S) ⊕ (Int32 × jx_S))) (h : p_cMac_sizeGot_8_s x3 x4 x6 σ = some t) : fk_cMac_sizeGot_8 σ0 t := by
  unfold p_cMac_sizeGot_8_s at h
  rcases Classical.em ((8 : Int32) ≤ x6) with hc | hc
  · rw [if_pos hc] at h
    obtain ⟨t9_1, h9_1, h8_1⟩ := Option.map_eq_some_iff.mp h
    clear h
    subst h8_1
    have h := h9_1
    clear h9_1
    have h9 := Option.some.inj h
    subst h9
    exact h0
  · rw [if_neg hc] at h
    rcases Classical.em (¬ (v_cHea_tagOf x4 σ) = (6 : Int32)) with hc | hc
    · rw [if_pos hc] at h
      obtain ⟨t9_2, h9_2, h8_2⟩ := Option.map_eq_some_iff.mp h
      clear h
      subst h8_2
      have h := h9_2
      clear h9_2
      have h9 := Option.some.inj h
      subst h9
      exact h0
    · rw [if_neg hc] at h
      have h9 := Option.some.inj h
      subst h9
      exact h0
theorem f_cMac_sizeGot_8 (σ0 : jx_S) (x3 : Int32) (x4 : Int64) (x6 : Int32) (σ : jx_S) (h0 : jFr ms_cMac_sizeGot fs_cMac_sizeGot σ0 σ) (t : (Int32 × jx_S)) (h : p_cMac_sizeGot_8 x3 x4 x6 σ = some t) : fkI ms_cMac_sizeGot fs_cMac_sizeGot σ0 t := by
  refine jx_loop_ok (E := fun s t => jFr ms_cMac_sizeGot fs_cMac_sizeGot σ0 (s.2.2.2) → fkI ms_cMac_sizeGot fs_cMac_sizeGot σ0 t) (fun s t hs => ?_) _ _ _ h h0
  cases t with
  | inl s1 => exact fun b hb hf => hb (f_cMac_sizeGot_8_s σ0 (s.1) (s.2.1) (s.2.2.1) (s.2.2.2) hf _ hs)
  | inr b => exact fun hf => f_cMac_sizeGot_8_s σ0 (s.1) (s.2.1) (s.2.2.1) (s.2.2.2) hf _ hs
theorem f_cMac_sizeGot (σ0 : jx_S) (x1 : Int64) (σ : jx_S) (h0 : jFr ms_cMac_sizeGot fs_cMac_sizeGot σ0 σ) (t : (Int32 × jx_S)) (h : p_cMac_sizeGot x1 σ = some t) : fkI ms_cMac_sizeGot fs_cMac_sizeGot σ0 t := by
  unfold p_cMac_sizeGot at h
  exact f_cMac_sizeGot_8 σ0 (0 : Int32) x1 (0 : Int32) σ h0 _ h
def ms_cHea_addPutOff : List Nat := [89, 91, 93]
def fs_cHea_addPutOff : List (Nat × Nat) := [(9, 12)]
theorem f_cHea_addPutOff (σ0 : jx_S) (x1 : Int32) (x2 : Int32) (σ : jx_S) (h0 : jFr ms_cHea_addPutOff fs_cHea_addPutOff σ0 σ) (t : (Int64 × jx_S)) (h : p_cHea_addPutOff x1 x2 σ = some t) : fkJ ms_cHea_addPutOff fs_cHea_addPutOff σ0 t := by
  unfold p_cHea_addPutOff at h
  have h9 := Option.some.inj h
  subst h9
  exact (jFr.i (jFr.ip (jFr.ip (jFr.ip h0 (by decide)) (by decide)) (by decide)) (by decide))
def ms_cHea_addPartial : List Nat := [101, 103, 105]
def fs_cHea_addPartial : List (Nat × Nat) := [(9, 15), (9, 16)]
theorem f_cHea_addPartial (σ0 : jx_S) (x1 : Int64) (x3 : Int32) (σ : jx_S) (h0 : jFr ms_cHea_addPartial fs_cHea_addPartial σ0 σ) (t : (Int32 × jx_S)) (h : p_cHea_addPartial x1 x3 σ = some t) : fkI ms_cHea_addPartial fs_cHea_addPartial σ0 t := by
  unfold p_cHea_addPartial at h
  have h9 := Option.some.inj h
  subst h9
  exact (jFr.i (jFr.i (jFr.ip (jFr.ip (jFr.lp h0 (by decide)) (by decide)) (by decide)) (by decide)) (by decide))
def fk_cMac_putOffFunction_127 (σ0 : jx_S) (t : ((Int32 × Int32 × Int32 × Int32 × Int32 × Int32 × jx_S) ⊕ (Int64 × jx_S))) : Prop := match t with
  | .inl s => jFr ms_cMac_putOff fs_cMac_putOff σ0 (s.2.2.2.2.2.2)
  | .inr t => fkJ ms_cMac_putOff fs_cMac_putOff σ0 t
theorem f_cMac_putOffFunction_178 (rec : (Int32 → Int32 → jx_S → Option (Int64 × jx_S))) (hrec : ∀ z0 z1 s r, rec z0 z1 s = some r → jFr ms_cMac_putOff fs_cMac_putOff s r.2) (σ0 : jx_S) (x7 : Int32) (σ : jx_S) (h0 : jFr ms_cMac_putOff fs_cMac_putOff σ0 σ) (t : (Int64 × jx_S)) (h : p_cMac_putOffFunction_178 rec x7 σ = some t) : fkJ ms_cMac_putOff fs_cMac_putOff σ0 t := by
  unfold p_cMac_putOffFunction_178 at h
  have h9 := Option.some.inj h
  subst h9
  exact h0
theorem f_cMac_putOffFunction_127_s (rec : (Int32 → Int32 → jx_S → Option (Int64 × jx_S))) (hrec : ∀ z0 z1 s r, rec z0 z1 s = some r → jFr ms_cMac_putOff fs_cMac_putOff s r.2) (σ0 : jx_S) (x1 : Int32) (x2 : Int32) (x3 : Int32) (x6 : Int32) (x7 : Int32) (x8 : Int32) (σ : jx_S) (h0 : jFr ms_cMac_putOff fs_cMac_putOff σ0 σ) (t : ((Int32 × Int32 × Int32 × Int32 × Int32 × Int32 × jx_S) ⊕ (Int64 × jx_S))) (h : p_cMac_putOffFunction_127_s rec x1 x2 x3 x6 x7 x8 σ = some t) : fk_cMac_putOffFunction_127 σ0 t := by
  unfold p_cMac_putOffFunction_127_s at h
  rcases Classical.em (x3 ≤ x8) with hc | hc
  · rw [if_pos hc] at h
    obtain ⟨t9_2, h9_2, h8_2⟩ := Option.map_eq_some_iff.mp h
    clear h
    subst h8_2
    have h := h9_2
    clear h9_2
    exact f_cMac_putOffFunction_178 rec hrec σ0 x7 σ h0 _ h
  · rw [if_neg hc] at h
    rcases Classical.em (¬ (σ.1 8 14) = 0) with hc | hc
    · rw [if_pos hc] at h
      obtain ⟨t9_3, h9_3, h8_3⟩ := Option.map_eq_some_iff.mp h
      clear h
      subst h8_3
      have h := h9_3
      clear h9_3
      exact f_cMac_putOffFunction_178 rec hrec σ0 x7 σ h0 _ h
    · rw [if_neg hc] at h
      obtain ⟨q4, hq, h⟩ := Option.bind_eq_some_iff.mp h
      have f_q4 := jFr.step h0 (f_cTre_part σ x1 x8 σ jFr.rfl q4 hq) (by decide +kernel) (by decide +kernel)
      obtain ⟨q5, hq, h⟩ := Option.bind_eq_some_iff.mp h
      have f_q5 := jFr.step f_q4 (hrec q4.1 (x2 + (1 : Int32)) q4.2 q5 hq) (by decide +kernel) (by decide +kernel)
      have h9 := Option.some.inj h
      subst h9
      exact (jFr.lp f_q5 (by decide))
theorem f_cMac_putOffFunction_127 (rec : (Int32 → Int32 → jx_S → Option (Int64 × jx_S))) (hrec : ∀ z0 z1 s r, rec z0 z1 s = some r → jFr ms_cMac_putOff fs_cMac_putOff s r.2) (σ0 : jx_S) (x1 : Int32) (x2 : Int32) (x3 : Int32) (x6 : Int32) (x7 : Int32) (x8 : Int32) (σ : jx_S) (h0 : jFr ms_cMac_putOff fs_cMac_putOff σ0 σ) (t : (Int64 × jx_S)) (h : p_cMac_putOffFunction_127 rec x1 x2 x3 x6 x7 x8 σ = some t) : fkJ ms_cMac_putOff fs_cMac_putOff σ0 t := by
  refine jx_loop_ok (E := fun s t => jFr ms_cMac_putOff fs_cMac_putOff σ0 (s.2.2.2.2.2.2) → fkJ ms_cMac_putOff fs_cMac_putOff σ0 t) (fun s t hs => ?_) _ _ _ h h0
  cases t with
  | inl s1 => exact fun b hb hf => hb (f_cMac_putOffFunction_127_s rec hrec σ0 (s.1) (s.2.1) (s.2.2.1) (s.2.2.2.1) (s.2.2.2.2.1) (s.2.2.2.2.2.1) (s.2.2.2.2.2.2) hf _ hs)
  | inr b => exact fun hf => f_cMac_putOffFunction_127_s rec hrec σ0 (s.1) (s.2.1) (s.2.2.1) (s.2.2.2.1) (s.2.2.2.2.1) (s.2.2.2.2.2.1) (s.2.2.2.2.2.2) hf _ hs
theorem f_cMac_putOffFunction_72 (rec : (Int32 → Int32 → jx_S → Option (Int64 × jx_S))) (hrec : ∀ z0 z1 s r, rec z0 z1 s = some r → jFr ms_cMac_putOff fs_cMac_putOff s r.2) (σ0 : jx_S) (x1 : Int32) (x2 : Int32) (x3 : Int32) (y0 : Int64) (σ : jx_S) (h0 : jFr ms_cMac_putOff fs_cMac_putOff σ0 σ) (t : (Int64 × jx_S)) (h : p_cMac_putOffFunction_72 rec x1 x2 x3 y0 σ = some t) : fkJ ms_cMac_putOff fs_cMac_putOff σ0 t := by
  unfold p_cMac_putOffFunction_72 at h
  rcases Classical.em (¬ x3 = 0) with hc | hc
  · rw [if_pos hc] at h
    rcases Classical.em (((σ.1 9 15) + x3) ≤ (6000 : Int32)) with hc | hc
    · rw [if_pos hc] at h
      obtain ⟨q1, hq, h⟩ := Option.bind_eq_some_iff.mp h
      have f_q1 := jFr.step h0 (f_cHea_addPartial σ y0 x3 σ jFr.rfl q1 hq) (by decide +kernel) (by decide +kernel)
      exact f_cMac_putOffFunction_127 rec hrec σ0 x1 x2 x3 (σ.1 9 15) q1.1 (0 : Int32) q1.2 f_q1 _ h
    · rw [if_neg hc] at h
      have h9 := Option.some.inj h
      subst h9
      exact (jFr.i h0 (by decide))
  · rw [if_neg hc] at h
    have h9 := Option.some.inj h
    subst h9
    exact h0
theorem f_cMac_putOffFunction (rec : (Int32 → Int32 → jx_S → Option (Int64 × jx_S))) (hrec : ∀ z0 z1 s r, rec z0 z1 s = some r → jFr ms_cMac_putOff fs_cMac_putOff s r.2) (σ0 : jx_S) (x1 : Int32) (x2 : Int32) (σ : jx_S) (h0 : jFr ms_cMac_putOff fs_cMac_putOff σ0 σ) (t : (Int64 × jx_S)) (h : p_cMac_putOffFunction rec x1 x2 σ = some t) : fkJ ms_cMac_putOff fs_cMac_putOff σ0 t := by
  unfold p_cMac_putOffFunction at h
  rcases Classical.em (¬ (jI_at 1201 (σ.1 23) x1) = (29 : Int32)) with hc | hc
  · rw [if_pos hc] at h
    exact f_cMac_putOffFunction_72 rec hrec σ0 x1 x2 (jI_at 1201 (σ.1 35) x1) (jL_at 30000 (σ.2 97) ((v_cMac_frame σ) + (jI_at 1201 (σ.1 33) x1))) σ h0 _ h
  · rw [if_neg hc] at h
    exact f_cMac_putOffFunction_72 rec hrec σ0 x1 x2 (jI_at 1201 (σ.1 35) x1) (v_cHea_hold (5 : Int32) (jI_at 1201 (σ.1 33) x1) σ) σ h0 _ h
theorem f_cMac_putOff_38 (rec : (Int32 → Int32 → jx_S → Option (Int64 × jx_S))) (hrec : ∀ z0 z1 s r, rec z0 z1 s = some r → jFr ms_cMac_putOff fs_cMac_putOff s r.2) (σ0 : jx_S) (x1 : Int32) (σ : jx_S) (h0 : jFr ms_cMac_putOff fs_cMac_putOff σ0 σ) (t : (Int64 × jx_S)) (h : p_cMac_putOff_38 rec x1 σ = some t) : fkJ ms_cMac_putOff fs_cMac_putOff σ0 t := by
  unfold p_cMac_putOff_38 at h
  have h9 := Option.some.inj h
  subst h9
  exact h0
theorem f_cMac_putOff_91 (rec : (Int32 → Int32 → jx_S → Option (Int64 × jx_S))) (hrec : ∀ z0 z1 s r, rec z0 z1 s = some r → jFr ms_cMac_putOff fs_cMac_putOff s r.2) (σ0 : jx_S) (x1 : Int32) (x2 : Int32) (σ : jx_S) (h0 : jFr ms_cMac_putOff fs_cMac_putOff σ0 σ) (t : (Int64 × jx_S)) (h : p_cMac_putOff_91 rec x1 x2 σ = some t) : fkJ ms_cMac_putOff fs_cMac_putOff σ0 t := by
  unfold p_cMac_putOff_91 at h
  rcases Classical.em (¬ (v_cTyp_isBase (jI_at 1201 (σ.1 37) x1) σ) = 0) with hc | hc
  · rw [if_pos hc] at h
    rcases Classical.em (¬ (σ.1 9 12) = (3000 : Int32)) with hc | hc
    · rw [if_pos hc] at h
      obtain ⟨q1, hq, h⟩ := Option.bind_eq_some_iff.mp h
      have f_q1 := jFr.step h0 (f_cHea_addPutOff σ x1 (v_cMac_frame σ) σ jFr.rfl q1 hq) (by decide +kernel) (by decide +kernel)
      have h9 := Option.some.inj h
      subst h9
      exact f_q1
    · rw [if_neg hc] at h
      have h9 := Option.some.inj h
      subst h9
      exact (jFr.i h0 (by decide))
  · rw [if_neg hc] at h
    obtain ⟨q2, hq, h⟩ := Option.bind_eq_some_iff.mp h
    have f_q2 := jFr.step h0 (f_cMac_putOffFunction rec hrec σ x1 x2 σ jFr.rfl q2 hq) (by decide +kernel) (by decide +kernel)
    have h9 := Option.some.inj h
    subst h9
    exact f_q2
theorem f_cMac_putOff_b (rec : (Int32 → Int32 → jx_S → Option (Int64 × jx_S))) (hrec : ∀ z0 z1 s r, rec z0 z1 s = some r → jFr ms_cMac_putOff fs_cMac_putOff s r.2) (σ0 : jx_S) (x1 : Int32) (x2 : Int32) (σ : jx_S) (h0 : jFr ms_cMac_putOff fs_cMac_putOff σ0 σ) (t : (Int64 × jx_S)) (h : p_cMac_putOff_b rec x1 x2 σ = some t) : fkJ ms_cMac_putOff fs_cMac_putOff σ0 t := by
  unfold p_cMac_putOff_b at h
  rcases Classical.em (¬ (σ.1 8 14) = 0) with hc | hc
  · rw [if_pos hc] at h
    have h9 := Option.some.inj h
    subst h9
    exact h0
  · rw [if_neg hc] at h
    rcases Classical.em (x2 ≤ (30 : Int32)) with hc | hc
    · rw [if_pos hc] at h
      rcases Classical.em ((jI_at 1201 (σ.1 23) x1) = (2 : Int32)) with hc | hc
      · rw [if_pos hc] at h
        exact f_cMac_putOff_38 rec hrec σ0 x1 σ h0 _ h
      · rw [if_neg hc] at h
        rcases Classical.em (¬ (jI_at 1201 (σ.1 23) x1) = (13 : Int32)) with hc | hc
        · rw [if_pos hc] at h
          rcases Classical.em (¬ (jI_at 1201 (σ.1 23) x1) = (28 : Int32)) with hc | hc
          · rw [if_pos hc] at h
            exact f_cMac_putOff_91 rec hrec σ0 x1 x2 σ h0 _ h
          · rw [if_neg hc] at h
            rcases Classical.em (¬ (jI_at 1201 (σ.1 35) x1) = 0) with hc | hc
            · rw [if_pos hc] at h
              exact f_cMac_putOff_91 rec hrec σ0 x1 x2 σ h0 _ h
            · rw [if_neg hc] at h
              have h9 := Option.some.inj h
              subst h9
              exact h0
        · rw [if_neg hc] at h
          exact f_cMac_putOff_38 rec hrec σ0 x1 σ h0 _ h
    · rw [if_neg hc] at h
      have h9 := Option.some.inj h
      subst h9
      exact h0
theorem f_cMac_putOff : ∀ (n : Nat) (σ0 : jx_S) (x1 : Int32) (x2 : Int32) (σ : jx_S) (h0 : jFr ms_cMac_putOff fs_cMac_putOff σ0 σ) (t : (Int64 × jx_S)) (h : p_cMac_putOff n x1 x2 σ = some t), fkJ ms_cMac_putOff fs_cMac_putOff σ0 t := by
  intro n
  induction n with
  | zero => intro σ0 x1 x2 σ h0 t h; cases h
  | succ n ih =>
    intro σ0 x1 x2 σ h0 t h
    exact f_cMac_putOff_b (p_cMac_putOff n) (fun z0 z1 s r hr => ih s z0 z1 s jFr.rfl r hr) σ0 x1 x2 σ h0 t h
def ms_cMac_callHeld : List Nat := [71, 75, 77, 79, 83, 89, 91, 93, 97, 99, 101, 103, 105]
def fs_cMac_callHeld : List (Nat × Nat) := [(8, 11), (8, 14), (9, 12), (9, 14), (9, 15), (9, 16)]
def fk_cMac_callHeld_54 (σ0 : jx_S) (t : ((Int32 × Int64 × Int32 × Int32 × Int32 × Int32 × jx_S) ⊕ jx_S)) : Prop := match t with
  | .inl s => jFr ms_cMac_callHeld fs_cMac_callHeld σ0 (s.2.2.2.2.2.2)
  | .inr t => fkV ms_cMac_callHeld fs_cMac_callHeld σ0 t
def fk_cMac_callHeld_178 (σ0 : jx_S) (t : ((Int32 × Int64 × Int32 × Int32 × Int32 × jx_S) ⊕ jx_S)) : Prop := match t with
  | .inl s => jFr ms_cMac_callHeld fs_cMac_callHeld σ0 (s.2.2.2.2.2)
  | .inr t => fkV ms_cMac_callHeld fs_cMac_callHeld σ0 t
theorem f_cMac_callHeld_225 (σ0 : jx_S) (x2 : Int64) (σ : jx_S) (h0 : jFr ms_cMac_callHeld fs_cMac_callHeld σ0 σ) (t : jx_S) (h : p_cMac_callHeld_225 x2 σ = some t) : fkV ms_cMac_callHeld fs_cMac_callHeld σ0 t := by
  unfold p_cMac_callHeld_225 at h
  rcases Classical.em (¬ (σ.1 8 14) = 0) with hc | hc
  · rw [if_pos hc] at h
    have h9 := Option.some.inj h
    subst h9
    exact h0
  · rw [if_neg hc] at h
    obtain ⟨q2, hq, h⟩ := Option.bind_eq_some_iff.mp h
    have f_q2 := jFr.step (jFr.ip h0 (by decide)) (f_cMac_enter (jI_put 250 σ 79 ((σ.1 8 11) - (1 : Int32)) (100 : Int32)) (v_cHea_numberOf x2 (jI_put 250 σ 79 ((σ.1 8 11) - (1 : Int32)) (100 : Int32))) (jI_put 250 σ 79 ((σ.1 8 11) - (1 : Int32)) (100 : Int32)) jFr.rfl q2 hq) (by decide +kernel) (by decide +kernel)
    have h9 := Option.some.inj h
    subst h9
    exact f_q2
theorem f_cMac_callHeld_178_s (σ0 : jx_S) (x1 : Int32) (x2 : Int64) (x4 : Int32) (x5 : Int32) (x7 : Int32) (σ : jx_S) (h0 : jFr ms_cMac_callHeld fs_cMac_callHeld σ0 σ) (t : ((Int32 × Int64 × Int32 × Int32 × Int32 × jx_S) ⊕ jx_S)) (h : p_cMac_callHeld_178_s x1 x2 x4 x5 x7 σ = some t) : fk_cMac_callHeld_178 σ0 t := by
  unfold p_cMac_callHeld_178_s at h
  rcases Classical.em (x5 ≤ x7) with hc | hc
  · rw [if_pos hc] at h
    obtain ⟨t9_3, h9_3, h8_3⟩ := Option.map_eq_some_iff.mp h
    clear h
    subst h8_3
    have h := h9_3
    clear h9_3
    exact f_cMac_callHeld_225 σ0 x2 σ h0 _ h
  · rw [if_neg hc] at h
    rcases Classical.em (¬ (σ.1 8 14) = 0) with hc | hc
    · rw [if_pos hc] at h
      obtain ⟨t9_4, h9_4, h8_4⟩ := Option.map_eq_some_iff.mp h
      clear h
      subst h8_4
      have h := h9_4
      clear h9_4
      exact f_cMac_callHeld_225 σ0 x2 σ h0 _ h
    · rw [if_neg hc] at h
      obtain ⟨q5, hq, h⟩ := Option.bind_eq_some_iff.mp h
      have f_q5 := jFr.step h0 (f_cTre_part σ x1 x7 σ jFr.rfl q5 hq) (by decide +kernel) (by decide +kernel)
      obtain ⟨q6, hq, h⟩ := Option.bind_eq_some_iff.mp h
      have f_q6 := jFr.step f_q5 (f_cMac_putOff 33 q5.2 q5.1 (0 : Int32) q5.2 jFr.rfl q6 hq) (by decide +kernel) (by decide +kernel)
      have h9 := Option.some.inj h
      subst h9
      exact (jFr.lp f_q6 (by decide))
theorem f_cMac_callHeld_178 (σ0 : jx_S) (x1 : Int32) (x2 : Int64) (x4 : Int32) (x5 : Int32) (x7 : Int32) (σ : jx_S) (h0 : jFr ms_cMac_callHeld fs_cMac_callHeld σ0 σ) (t : jx_S) (h : p_cMac_callHeld_178 x1 x2 x4 x5 x7 σ = some t) : fkV ms_cMac_callHeld fs_cMac_callHeld σ0 t := by
  refine jx_loop_ok (E := fun s t => jFr ms_cMac_callHeld fs_cMac_callHeld σ0 (s.2.2.2.2.2) → fkV ms_cMac_callHeld fs_cMac_callHeld σ0 t) (fun s t hs => ?_) _ _ _ h h0
  cases t with
  | inl s1 => exact fun b hb hf => hb (f_cMac_callHeld_178_s σ0 (s.1) (s.2.1) (s.2.2.1) (s.2.2.2.1) (s.2.2.2.2.1) (s.2.2.2.2.2) hf _ hs)
  | inr b => exact fun hf => f_cMac_callHeld_178_s σ0 (s.1) (s.2.1) (s.2.2.1) (s.2.2.2.1) (s.2.2.2.2.1) (s.2.2.2.2.2) hf _ hs
theorem f_cMac_callHeld_175 (σ0 : jx_S) (x1 : Int32) (x2 : Int64) (x4 : Int32) (x5 : Int32) (σ : jx_S) (h0 : jFr ms_cMac_callHeld fs_cMac_callHeld σ0 σ) (t : jx_S) (h : p_cMac_callHeld_175 x1 x2 x4 x5 σ = some t) : fkV ms_cMac_callHeld fs_cMac_callHeld σ0 t := by
  unfold p_cMac_callHeld_175 at h
  exact f_cMac_callHeld_178 σ0 x1 x2 x4 x5 (0 : Int32) σ h0 _ h
def fk_cMac_callHeld_96 (σ0 : jx_S) (t : ((Int32 × Int32 × Int32 × Int32 × Int32 × Int32 × Int32 × jx_S) ⊕ ((Int32 × Int64 × Int32 × Int32 × Int32 × Int32 × jx_S) ⊕ jx_S))) : Prop := match t with
  | .inl s => jFr ms_cMac_callHeld fs_cMac_callHeld σ0 (s.2.2.2.2.2.2.2)
  | .inr t => fk_cMac_callHeld_54 σ0 t
theorem f_cMac_callHeld_96_s (σ0 : jx_S) (x1 : Int32) (x4 : Int32) (x5 : Int32) (x6 : Int32) (x7 : Int32) (x8 : Int32) (x9 : Int32) (σ : jx_S) (h0 : jFr ms_cMac_callHeld fs_cMac_callHeld σ0 σ) (t : ((Int32 × Int32 × Int32 × Int32 × Int32 × Int32 × Int32 × jx_S) ⊕ ((Int32 × Int64 × Int32 × Int32 × Int32 × Int32 × jx_S) ⊕ jx_S))) (h : p_cMac_callHeld_96_s x1 x4 x5 x6 x7 x8 x9 σ = some t) : fk_cMac_callHeld_96 σ0 t := by
  unfold p_cMac_callHeld_96_s at h
  rcases Classical.em ((jI_at 6000 (σ.1 105) x8) ≤ x9) with hc | hc
  · rw [if_pos hc] at h
    obtain ⟨t9_9, h9_9, h8_9⟩ := Option.map_eq_some_iff.mp h
    clear h
    subst h8_9
    have h := h9_9
    clear h9_9
    have h9 := Option.some.inj h
    subst h9
    exact h0
  · rw [if_neg hc] at h
    have h9 := Option.some.inj h
    subst h9
    exact (jFr.lp h0 (by decide))
theorem f_cMac_callHeld_96 (σ0 : jx_S) (x1 : Int32) (x4 : Int32) (x5 : Int32) (x6 : Int32) (x7 : Int32) (x8 : Int32) (x9 : Int32) (σ : jx_S) (h0 : jFr ms_cMac_callHeld fs_cMac_callHeld σ0 σ) (t : ((Int32 × Int64 × Int32 × Int32 × Int32 × Int32 × jx_S) ⊕ jx_S)) (h : p_cMac_callHeld_96 x1 x4 x5 x6 x7 x8 x9 σ = some t) : fk_cMac_callHeld_54 σ0 t := by
  refine jx_loop_ok (E := fun s t => jFr ms_cMac_callHeld fs_cMac_callHeld σ0 (s.2.2.2.2.2.2.2) → fk_cMac_callHeld_54 σ0 t) (fun s t hs => ?_) _ _ _ h h0
  cases t with
  | inl s1 => exact fun b hb hf => hb (f_cMac_callHeld_96_s σ0 (s.1) (s.2.1) (s.2.2.1) (s.2.2.2.1) (s.2.2.2.2.1) (s.2.2.2.2.2.1) (s.2.2.2.2.2.2.1) (s.2.2.2.2.2.2.2) hf _ hs)
  | inr b => exact fun hf => f_cMac_callHeld_96_s σ0 (s.1) (s.2.1) (s.2.2.1) (s.2.2.2.1) (s.2.2.2.2.1) (s.2.2.2.2.2.1) (s.2.2.2.2.2.2.1) (s.2.2.2.2.2.2.2) hf _ hs
theorem f_cMac_callHeld_54_s (σ0 : jx_S) (x1 : Int32) (x2 : Int64) (x4 : Int32) (x5 : Int32) (x6 : Int32) (x7 : Int32) (σ : jx_S) (h0 : jFr ms_cMac_callHeld fs_cMac_callHeld σ0 σ) (t : ((Int32 × Int64 × Int32 × Int32 × Int32 × Int32 × jx_S) ⊕ jx_S)) (h : p_cMac_callHeld_54_s x1 x2 x4 x5 x6 x7 σ = some t) : fk_cMac_callHeld_54 σ0 t := by
  unfold p_cMac_callHeld_54_s at h
  rcases Classical.em ((8 : Int32) ≤ x7) with hc | hc
  · rw [if_pos hc] at h
    obtain ⟨t9_7, h9_7, h8_7⟩ := Option.map_eq_some_iff.mp h
    clear h
    subst h8_7
    have h := h9_7
    clear h9_7
    exact f_cMac_callHeld_175 σ0 x1 x2 x4 x5 σ h0 _ h
  · rw [if_neg hc] at h
    rcases Classical.em (¬ (v_cHea_tagOf x2 σ) = (6 : Int32)) with hc | hc
    · rw [if_pos hc] at h
      obtain ⟨t9_8, h9_8, h8_8⟩ := Option.map_eq_some_iff.mp h
      clear h
      subst h8_8
      have h := h9_8
      clear h9_8
      exact f_cMac_callHeld_175 σ0 x1 x2 x4 x5 σ h0 _ h
    · rw [if_neg hc] at h
      exact f_cMac_callHeld_96 σ0 x1 x4 x5 (x6 - (jI_at 6000 (σ.1 105) (v_cHea_numberOf x2 σ))) x7 (v_cHea_numberOf x2 σ) (0 : Int32) σ h0 _ h
theorem f_cMac_callHeld_54 (σ0 : jx_S) (x1 : Int32) (x2 : Int64) (x4 : Int32) (x5 : Int32) (x6 : Int32) (x7 : Int32) (σ : jx_S) (h0 : jFr ms_cMac_callHeld fs_cMac_callHeld σ0 σ) (t : jx_S) (h : p_cMac_callHeld_54 x1 x2 x4 x5 x6 x7 σ = some t) : fkV ms_cMac_callHeld fs_cMac_callHeld σ0 t := by
  refine jx_loop_ok (E := fun s t => jFr ms_cMac_callHeld fs_cMac_callHeld σ0 (s.2.2.2.2.2.2) → fkV ms_cMac_callHeld fs_cMac_callHeld σ0 t) (fun s t hs => ?_) _ _ _ h h0
  cases t with
  | inl s1 => exact fun b hb hf => hb (f_cMac_callHeld_54_s σ0 (s.1) (s.2.1) (s.2.2.1) (s.2.2.2.1) (s.2.2.2.2.1) (s.2.2.2.2.2.1) (s.2.2.2.2.2.2) hf _ hs)
  | inr b => exact fun hf => f_cMac_callHeld_54_s σ0 (s.1) (s.2.1) (s.2.2.1) (s.2.2.2.1) (s.2.2.2.2.1) (s.2.2.2.2.2.1) (s.2.2.2.2.2.2) hf _ hs
theorem f_cMac_callHeld (σ0 : jx_S) (x1 : Int32) (σ : jx_S) (h0 : jFr ms_cMac_callHeld fs_cMac_callHeld σ0 σ) (t : jx_S) (h : p_cMac_callHeld x1 σ = some t) : fkV ms_cMac_callHeld fs_cMac_callHeld σ0 t := by
  unfold p_cMac_callHeld at h
  obtain ⟨q1, hq, h⟩ := Option.bind_eq_some_iff.mp h
  have f_q1 := jFr.step h0 (f_cMac_sizeGot σ (jL_at 30000 (σ.2 97) ((v_cMac_frame σ) + (jI_at 1201 (σ.1 33) x1))) σ jFr.rfl q1 hq) (by decide +kernel) (by decide +kernel)
  exact f_cMac_callHeld_54 σ0 x1 (jL_at 30000 (σ.2 97) ((v_cMac_frame σ) + (jI_at 1201 (σ.1 33) x1))) q1.1 (jI_at 1201 (q1.2.1 35) x1) q1.1 (0 : Int32) q1.2 f_q1 _ h
def ms_cMac_beginPutOff : List Nat := [71, 75, 77, 79, 93]
def fs_cMac_beginPutOff : List (Nat × Nat) := [(8, 11), (8, 14)]
theorem f_cMac_beginPutOff (σ0 : jx_S) (x1 : Int32) (σ : jx_S) (h0 : jFr ms_cMac_beginPutOff fs_cMac_beginPutOff σ0 σ) (t : jx_S) (h : p_cMac_beginPutOff x1 σ = some t) : fkV ms_cMac_beginPutOff fs_cMac_beginPutOff σ0 t := by
  unfold p_cMac_beginPutOff at h
  obtain ⟨q1, hq, h⟩ := Option.bind_eq_some_iff.mp h
  have f_q1 := jFr.step (jFr.ip h0 (by decide)) (f_cMac_begin (jI_put 3000 σ 93 x1 (1 : Int32)) (jI_at 3000 (σ.1 89) x1) (jI_at 3000 (σ.1 91) x1) (jI_put 3000 σ 93 x1 (1 : Int32)) jFr.rfl q1 hq) (by decide +kernel) (by decide +kernel)
  have h9 := Option.some.inj h
  subst h9
  exact f_q1
def ms_cHea_settle : List Nat := [93, 95]
def fs_cHea_settle : List (Nat × Nat) := [(9, 13)]
theorem f_cHea_settle (σ0 : jx_S) (x1 : Int32) (x2 : Int64) (σ : jx_S) (h0 : jFr ms_cHea_settle fs_cHea_settle σ0 σ) (t : jx_S) (h : p_cHea_settle x1 x2 σ = some t) : fkV ms_cHea_settle fs_cHea_settle σ0 t := by
  unfold p_cHea_settle at h
  have h9 := Option.some.inj h
  subst h9
  exact (jFr.i (jFr.ip (jFr.lp h0 (by decide)) (by decide)) (by decide))
def ms_cMac_workLocal : List Nat := [71, 75, 77, 79, 93, 95]
def fs_cMac_workLocal : List (Nat × Nat) := [(8, 11), (8, 14), (8, 15), (9, 13)]
theorem f_cMac_workLocal (σ0 : jx_S) (x1 : Int32) (x2 : Int32) (σ : jx_S) (h0 : jFr ms_cMac_workLocal fs_cMac_workLocal σ0 σ) (t : jx_S) (h : p_cMac_workLocal x1 x2 σ = some t) : fkV ms_cMac_workLocal fs_cMac_workLocal σ0 t := by
  unfold p_cMac_workLocal at h
  rcases Classical.em (¬ x2 = (1 : Int32)) with hc | hc
  · rw [if_pos hc] at h
    rcases Classical.em ((v_cHea_tagOf (jL_at 30000 (σ.2 97) ((v_cMac_frame σ) + (jI_at 1201 (σ.1 33) x1))) σ) = (4 : Int32)) with hc | hc
    · rw [if_pos hc] at h
      rcases Classical.em (¬ (jI_at 3000 (σ.1 93) (v_cHea_numberOf (jL_at 30000 (σ.2 97) ((v_cMac_frame σ) + (jI_at 1201 (σ.1 33) x1))) σ)) = (2 : Int32)) with hc | hc
      · rw [if_pos hc] at h
        rcases Classical.em (¬ (jI_at 3000 (σ.1 93) (v_cHea_numberOf (jL_at 30000 (σ.2 97) ((v_cMac_frame σ) + (jI_at 1201 (σ.1 33) x1))) σ)) = (1 : Int32)) with hc | hc
        · rw [if_pos hc] at h
          obtain ⟨q1, hq, h⟩ := Option.bind_eq_some_iff.mp h
          have f_q1 := jFr.step (jFr.ip h0 (by decide)) (f_cMac_beginPutOff (jI_put 250 σ 79 ((σ.1 8 11) - (1 : Int32)) (1 : Int32)) (v_cHea_numberOf (jL_at 30000 (σ.2 97) ((v_cMac_frame σ) + (jI_at 1201 (σ.1 33) x1))) σ) (jI_put 250 σ 79 ((σ.1 8 11) - (1 : Int32)) (1 : Int32)) jFr.rfl q1 hq) (by decide +kernel) (by decide +kernel)
          have h9 := Option.some.inj h
          subst h9
          exact f_q1
        · rw [if_neg hc] at h
          have h9 := Option.some.inj h
          subst h9
          exact (jFr.i h0 (by decide))
      · rw [if_neg hc] at h
        obtain ⟨q2, hq, h⟩ := Option.bind_eq_some_iff.mp h
        have f_q2 := jFr.step h0 (f_cMac_finish σ (jL_at 3000 (σ.2 95) (v_cHea_numberOf (jL_at 30000 (σ.2 97) ((v_cMac_frame σ) + (jI_at 1201 (σ.1 33) x1))) σ)) σ jFr.rfl q2 hq) (by decide +kernel) (by decide +kernel)
        have h9 := Option.some.inj h
        subst h9
        exact f_q2
    · rw [if_neg hc] at h
      obtain ⟨q3, hq, h⟩ := Option.bind_eq_some_iff.mp h
      have f_q3 := jFr.step h0 (f_cMac_finish σ (jL_at 30000 (σ.2 97) ((v_cMac_frame σ) + (jI_at 1201 (σ.1 33) x1))) σ jFr.rfl q3 hq) (by decide +kernel) (by decide +kernel)
      have h9 := Option.some.inj h
      subst h9
      exact f_q3
  · rw [if_neg hc] at h
    obtain ⟨q4, hq, h⟩ := Option.bind_eq_some_iff.mp h
    have f_q4 := jFr.step h0 (f_cHea_settle σ (v_cHea_numberOf (jL_at 30000 (σ.2 97) ((v_cMac_frame σ) + (jI_at 1201 (σ.1 33) x1))) σ) (σ.2 8 15) σ jFr.rfl q4 hq) (by decide +kernel) (by decide +kernel)
    obtain ⟨q5, hq, h⟩ := Option.bind_eq_some_iff.mp h
    have f_q5 := jFr.step f_q4 (f_cMac_finish q4 (q4.2 8 15) q4 jFr.rfl q5 hq) (by decide +kernel) (by decide +kernel)
    have h9 := Option.some.inj h
    subst h9
    exact f_q5
def ms_cMac_beginPart : List Nat := [71, 75, 77, 79]
def fs_cMac_beginPart : List (Nat × Nat) := [(8, 11), (8, 14)]
theorem f_cMac_beginPart (σ0 : jx_S) (x1 : Int32) (x2 : Int32) (σ : jx_S) (h0 : jFr ms_cMac_beginPart fs_cMac_beginPart σ0 σ) (t : jx_S) (h : p_cMac_beginPart x1 x2 σ = some t) : fkV ms_cMac_beginPart fs_cMac_beginPart σ0 t := by
  unfold p_cMac_beginPart at h
  obtain ⟨q1, hq, h⟩ := Option.bind_eq_some_iff.mp h
  have f_q1 := jFr.step (jFr.ip h0 (by decide)) (f_cMac_begin (jI_put 250 σ 79 ((σ.1 8 11) - (1 : Int32)) x2) x1 (v_cMac_frame (jI_put 250 σ 79 ((σ.1 8 11) - (1 : Int32)) x2)) (jI_put 250 σ 79 ((σ.1 8 11) - (1 : Int32)) x2) jFr.rfl q1 hq) (by decide +kernel) (by decide +kernel)
  have h9 := Option.some.inj h
  subst h9
  exact f_q1
def ms_cMac_workCall : List Nat := [71, 75, 77, 79, 81, 83, 89, 91, 93, 97, 99, 101, 103, 105]
def fs_cMac_workCall : List (Nat × Nat) := [(8, 11), (8, 14), (9, 12), (9, 14), (9, 15), (9, 16)]
theorem f_cMac_workCall_197 (σ0 : jx_S) (x1 : Int32) (x2 : Int32) (x4 : Int32) (x5 : Int32) (σ : jx_S) (h0 : jFr ms_cMac_workCall fs_cMac_workCall σ0 σ) (t : jx_S) (h : p_cMac_workCall_197 x1 x2 x4 x5 σ = some t) : fkV ms_cMac_workCall fs_cMac_workCall σ0 t := by
  unfold p_cMac_workCall_197 at h
  obtain ⟨q1, hq, h⟩ := Option.bind_eq_some_iff.mp h
  have f_q1 := jFr.step h0 (f_cTre_part σ x1 x5 σ jFr.rfl q1 hq) (by decide +kernel) (by decide +kernel)
  obtain ⟨q2, hq, h⟩ := Option.bind_eq_some_iff.mp h
  have f_q2 := jFr.step f_q1 (f_cMac_putOff 33 q1.2 q1.1 (0 : Int32) q1.2 jFr.rfl q2 hq) (by decide +kernel) (by decide +kernel)
  have h9 := Option.some.inj h
  subst h9
  exact (jFr.ip (jFr.lp f_q2 (by decide)) (by decide))
def fk_cMac_workCall_89 (σ0 : jx_S) (t : ((Int32 × Int32 × Int32 × Int32 × jx_S) ⊕ jx_S)) : Prop := match t with
  | .inl s => jFr ms_cMac_workCall fs_cMac_workCall σ0 (s.2.2.2.2)
  | .inr t => fkV ms_cMac_workCall fs_cMac_workCall σ0 t
theorem f_cMac_workCall_89_s (σ0 : jx_S) (x3 : Int32) (x4 : Int32) (x5 : Int32) (x6 : Int32) (σ : jx_S) (h0 : jFr ms_cMac_workCall fs_cMac_workCall σ0 σ) (t : ((Int32 × Int32 × Int32 × Int32 × jx_S) ⊕ jx_S)) (h : p_cMac_workCall_89_s x3 x4 x5 x6 σ = some t) : fk_cMac_workCall_89 σ0 t := by
  unfold p_cMac_workCall_89_s at h
  rcases Classical.em (x5 ≤ x6) with hc | hc
  · rw [if_pos hc] at h
    obtain ⟨t9_6, h9_6, h8_6⟩ := Option.map_eq_some_iff.mp h
    clear h
    subst h8_6
    have h := h9_6
    clear h9_6
    obtain ⟨q5, hq, h⟩ := Option.bind_eq_some_iff.mp h
    have f_q5 := jFr.step (jFr.ip h0 (by decide)) (f_cMac_enter (jI_put 250 σ 79 ((σ.1 8 11) - (1 : Int32)) (100 : Int32)) x3 (jI_put 250 σ 79 ((σ.1 8 11) - (1 : Int32)) (100 : Int32)) jFr.rfl q5 hq) (by decide +kernel) (by decide +kernel)
    have h9 := Option.some.inj h
    subst h9
    exact f_q5
  · rw [if_neg hc] at h
    have h9 := Option.some.inj h
    subst h9
    exact (jFr.lp h0 (by decide))
theorem f_cMac_workCall_89 (σ0 : jx_S) (x3 : Int32) (x4 : Int32) (x5 : Int32) (x6 : Int32) (σ : jx_S) (h0 : jFr ms_cMac_workCall fs_cMac_workCall σ0 σ) (t : jx_S) (h : p_cMac_workCall_89 x3 x4 x5 x6 σ = some t) : fkV ms_cMac_workCall fs_cMac_workCall σ0 t := by
  refine jx_loop_ok (E := fun s t => jFr ms_cMac_workCall fs_cMac_workCall σ0 (s.2.2.2.2) → fkV ms_cMac_workCall fs_cMac_workCall σ0 t) (fun s t hs => ?_) _ _ _ h h0
  cases t with
  | inl s1 => exact fun b hb hf => hb (f_cMac_workCall_89_s σ0 (s.1) (s.2.1) (s.2.2.1) (s.2.2.2.1) (s.2.2.2.2) hf _ hs)
  | inr b => exact fun hf => f_cMac_workCall_89_s σ0 (s.1) (s.2.1) (s.2.2.1) (s.2.2.2.1) (s.2.2.2.2) hf _ hs
theorem f_cMac_workCall (σ0 : jx_S) (x1 : Int32) (x2 : Int32) (σ : jx_S) (h0 : jFr ms_cMac_workCall fs_cMac_workCall σ0 σ) (t : jx_S) (h : p_cMac_workCall x1 x2 σ = some t) : fkV ms_cMac_workCall fs_cMac_workCall σ0 t := by
  unfold p_cMac_workCall at h
  rcases Classical.em (¬ (x2 - x2 / (2 : Int32) * (2 : Int32)) = (1 : Int32)) with hc | hc
  · rw [if_pos hc] at h
    rcases Classical.em (¬ (x2 / (2 : Int32)) = (jI_at 1201 (σ.1 35) x1)) with hc | hc
    · rw [if_pos hc] at h
      rcases Classical.em ((σ.1 8 13) = 0) with hc | hc
      · rw [if_pos hc] at h
        exact f_cMac_workCall_197 σ0 x1 x2 (((σ.1 8 11) - (1 : Int32)) * (8 : Int32)) (x2 / (2 : Int32)) σ h0 _ h
      · rw [if_neg hc] at h
        rcases Classical.em (¬ (v_cFun_strictOf (jI_at 1201 (σ.1 33) x1) (x2 / (2 : Int32)) σ) = (1 : Int32)) with hc | hc
        · rw [if_pos hc] at h
          exact f_cMac_workCall_197 σ0 x1 x2 (((σ.1 8 11) - (1 : Int32)) * (8 : Int32)) (x2 / (2 : Int32)) σ h0 _ h
        · rw [if_neg hc] at h
          obtain ⟨q3, hq, h⟩ := Option.bind_eq_some_iff.mp h
          have f_q3 := jFr.step (jFr.ip h0 (by decide)) (f_cTre_part (jI_put 10 σ 71 (9 : Int32) (jI_at 10 (σ.1 71) (9 : Int32) + (1 : Int32))) x1 (x2 / (2 : Int32)) (jI_put 10 σ 71 (9 : Int32) (jI_at 10 (σ.1 71) (9 : Int32) + (1 : Int32))) jFr.rfl q3 hq) (by decide +kernel) (by decide +kernel)
          obtain ⟨q4, hq, h⟩ := Option.bind_eq_some_iff.mp h
          have f_q4 := jFr.step f_q3 (f_cMac_beginPart q3.2 q3.1 (x2 + (1 : Int32)) q3.2 jFr.rfl q4 hq) (by decide +kernel) (by decide +kernel)
          have h9 := Option.some.inj h
          subst h9
          exact f_q4
    · rw [if_neg hc] at h
      exact f_cMac_workCall_89 σ0 (jI_at 1201 (σ.1 33) x1) (((σ.1 8 11) - (1 : Int32)) * (8 : Int32)) (x2 / (2 : Int32)) (0 : Int32) σ h0 _ h
  · rw [if_neg hc] at h
    have h9 := Option.some.inj h
    subst h9
    exact (jFr.ip (jFr.lp h0 (by decide)) (by decide))
def ms_cMac_workLet : List Nat := [71, 75, 77, 79, 89, 91, 93, 97, 99, 101, 103, 105]
def fs_cMac_workLet : List (Nat × Nat) := [(8, 11), (8, 14), (9, 12), (9, 15), (9, 16)]
theorem f_cMac_workLet_101 (σ0 : jx_S) (x1 : Int32) (y0 : Int64) (y1 : Int32) (σ : jx_S) (h0 : jFr ms_cMac_workLet fs_cMac_workLet σ0 σ) (t : jx_S) (h : p_cMac_workLet_101 x1 y0 y1 σ = some t) : fkV ms_cMac_workLet fs_cMac_workLet σ0 t := by
  unfold p_cMac_workLet_101 at h
  rcases Classical.em (¬ (σ.1 8 14) = 0) with hc | hc
  · rw [if_pos hc] at h
    have h9 := Option.some.inj h
    subst h9
    exact (jFr.lp h0 (by decide))
  · rw [if_neg hc] at h
    obtain ⟨q1, hq, h⟩ := Option.bind_eq_some_iff.mp h
    have f_q1 := jFr.step (jFr.lp h0 (by decide)) (f_cTre_part (jL_put 30000 σ 97 y1 y0) x1 (1 : Int32) (jL_put 30000 σ 97 y1 y0) jFr.rfl q1 hq) (by decide +kernel) (by decide +kernel)
    obtain ⟨q2, hq, h⟩ := Option.bind_eq_some_iff.mp h
    have f_q2 := jFr.step f_q1 (f_cMac_beginPart q1.2 q1.1 (100 : Int32) q1.2 jFr.rfl q2 hq) (by decide +kernel) (by decide +kernel)
    have h9 := Option.some.inj h
    subst h9
    exact f_q2
theorem f_cMac_workLet_68 (σ0 : jx_S) (x1 : Int32) (x2 : Int32) (x3 : Int32) (σ : jx_S) (h0 : jFr ms_cMac_workLet fs_cMac_workLet σ0 σ) (t : jx_S) (h : p_cMac_workLet_68 x1 x2 x3 σ = some t) : fkV ms_cMac_workLet fs_cMac_workLet σ0 t := by
  unfold p_cMac_workLet_68 at h
  rcases Classical.em (¬ x2 = 0) with hc | hc
  · rw [if_pos hc] at h
    exact f_cMac_workLet_101 σ0 x1 (σ.2 8 15) x3 σ h0 _ h
  · rw [if_neg hc] at h
    obtain ⟨q3, hq, h⟩ := Option.bind_eq_some_iff.mp h
    have f_q3 := jFr.step h0 (f_cTre_part σ x1 (0 : Int32) σ jFr.rfl q3 hq) (by decide +kernel) (by decide +kernel)
    obtain ⟨q4, hq, h⟩ := Option.bind_eq_some_iff.mp h
    have f_q4 := jFr.step f_q3 (f_cMac_putOff 33 q3.2 q3.1 (0 : Int32) q3.2 jFr.rfl q4 hq) (by decide +kernel) (by decide +kernel)
    exact f_cMac_workLet_101 σ0 x1 q4.1 x3 q4.2 f_q4 _ h
theorem f_cMac_workLet (σ0 : jx_S) (x1 : Int32) (x2 : Int32) (σ : jx_S) (h0 : jFr ms_cMac_workLet fs_cMac_workLet σ0 σ) (t : jx_S) (h : p_cMac_workLet x1 x2 σ = some t) : fkV ms_cMac_workLet fs_cMac_workLet σ0 t := by
  unfold p_cMac_workLet at h
  rcases Classical.em (¬ x2 = 0) with hc | hc
  · rw [if_pos hc] at h
    exact f_cMac_workLet_68 σ0 x1 x2 ((v_cMac_frame σ) + (jI_at 1201 (σ.1 33) x1)) σ h0 _ h
  · rw [if_neg hc] at h
    rcases Classical.em ((σ.1 8 13) = 0) with hc | hc
    · rw [if_pos hc] at h
      exact f_cMac_workLet_68 σ0 x1 x2 ((v_cMac_frame σ) + (jI_at 1201 (σ.1 33) x1)) σ h0 _ h
    · rw [if_neg hc] at h
      rcases Classical.em (¬ (jI_at 1201 (σ.1 39) x1) = (1 : Int32)) with hc | hc
      · rw [if_pos hc] at h
        exact f_cMac_workLet_68 σ0 x1 x2 ((v_cMac_frame σ) + (jI_at 1201 (σ.1 33) x1)) σ h0 _ h
      · rw [if_neg hc] at h
        obtain ⟨q5, hq, h⟩ := Option.bind_eq_some_iff.mp h
        have f_q5 := jFr.step (jFr.ip h0 (by decide)) (f_cTre_part (jI_put 10 σ 71 (9 : Int32) (jI_at 10 (σ.1 71) (9 : Int32) + (1 : Int32))) x1 (0 : Int32) (jI_put 10 σ 71 (9 : Int32) (jI_at 10 (σ.1 71) (9 : Int32) + (1 : Int32))) jFr.rfl q5 hq) (by decide +kernel) (by decide +kernel)
        obtain ⟨q6, hq, h⟩ := Option.bind_eq_some_iff.mp h
        have f_q6 := jFr.step f_q5 (f_cMac_beginPart q5.2 q5.1 (1 : Int32) q5.2 jFr.rfl q6 hq) (by decide +kernel) (by decide +kernel)
        have h9 := Option.some.inj h
        subst h9
        exact f_q6
def ms_cMac_workIf : List Nat := [71, 75, 77, 79]
def fs_cMac_workIf : List (Nat × Nat) := [(8, 11), (8, 14)]
theorem f_cMac_workIf_42 (σ0 : jx_S) (y0 : Int32) (y1 : Int32) (σ : jx_S) (h0 : jFr ms_cMac_workIf fs_cMac_workIf σ0 σ) (t : jx_S) (h : p_cMac_workIf_42 y0 y1 σ = some t) : fkV ms_cMac_workIf fs_cMac_workIf σ0 t := by
  unfold p_cMac_workIf_42 at h
  obtain ⟨q1, hq, h⟩ := Option.bind_eq_some_iff.mp h
  have f_q1 := jFr.step h0 (f_cTre_part σ y1 y0 σ jFr.rfl q1 hq) (by decide +kernel) (by decide +kernel)
  obtain ⟨q2, hq, h⟩ := Option.bind_eq_some_iff.mp h
  have f_q2 := jFr.step f_q1 (f_cMac_beginPart q1.2 q1.1 (100 : Int32) q1.2 jFr.rfl q2 hq) (by decide +kernel) (by decide +kernel)
  have h9 := Option.some.inj h
  subst h9
  exact f_q2
theorem f_cMac_workIf (σ0 : jx_S) (x1 : Int32) (x2 : Int32) (σ : jx_S) (h0 : jFr ms_cMac_workIf fs_cMac_workIf σ0 σ) (t : jx_S) (h : p_cMac_workIf x1 x2 σ = some t) : fkV ms_cMac_workIf fs_cMac_workIf σ0 t := by
  unfold p_cMac_workIf at h
  rcases Classical.em (¬ x2 = 0) with hc | hc
  · rw [if_pos hc] at h
    rcases Classical.em ((v_cHea_numberOf (σ.2 8 15) σ) = 0) with hc | hc
    · rw [if_pos hc] at h
      exact f_cMac_workIf_42 σ0 (2 : Int32) x1 σ h0 _ h
    · rw [if_neg hc] at h
      exact f_cMac_workIf_42 σ0 (1 : Int32) x1 σ h0 _ h
  · rw [if_neg hc] at h
    obtain ⟨q3, hq, h⟩ := Option.bind_eq_some_iff.mp h
    have f_q3 := jFr.step h0 (f_cTre_part σ x1 (0 : Int32) σ jFr.rfl q3 hq) (by decide +kernel) (by decide +kernel)
    obtain ⟨q4, hq, h⟩ := Option.bind_eq_some_iff.mp h
    have f_q4 := jFr.step f_q3 (f_cMac_beginPart q3.2 q3.1 (1 : Int32) q3.2 jFr.rfl q4 hq) (by decide +kernel) (by decide +kernel)
    have h9 := Option.some.inj h
    subst h9
    exact f_q4
def ms_cMac_workCase : List Nat := [71, 75, 77, 79, 97]
def fs_cMac_workCase : List (Nat × Nat) := [(8, 11), (8, 14)]
theorem f_cMac_workCase_132 (σ0 : jx_S) (y0 : Int32) (y1 : Int32) (σ : jx_S) (h0 : jFr ms_cMac_workCase fs_cMac_workCase σ0 σ) (t : jx_S) (h : p_cMac_workCase_132 y0 y1 σ = some t) : fkV ms_cMac_workCase fs_cMac_workCase σ0 t := by
  unfold p_cMac_workCase_132 at h
  obtain ⟨q1, hq, h⟩ := Option.bind_eq_some_iff.mp h
  have f_q1 := jFr.step h0 (f_cTre_part σ y1 y0 σ jFr.rfl q1 hq) (by decide +kernel) (by decide +kernel)
  obtain ⟨q2, hq, h⟩ := Option.bind_eq_some_iff.mp h
  have f_q2 := jFr.step f_q1 (f_cMac_beginPart q1.2 q1.1 (100 : Int32) q1.2 jFr.rfl q2 hq) (by decide +kernel) (by decide +kernel)
  have h9 := Option.some.inj h
  subst h9
  exact f_q2
theorem f_cMac_workCase (σ0 : jx_S) (x1 : Int32) (x2 : Int32) (σ : jx_S) (h0 : jFr ms_cMac_workCase fs_cMac_workCase σ0 σ) (t : jx_S) (h : p_cMac_workCase x1 x2 σ = some t) : fkV ms_cMac_workCase fs_cMac_workCase σ0 t := by
  unfold p_cMac_workCase at h
  rcases Classical.em (¬ x2 = 0) with hc | hc
  · rw [if_pos hc] at h
    rcases Classical.em ((v_cHea_tagOf (σ.2 8 15) σ) = (3 : Int32)) with hc | hc
    · rw [if_pos hc] at h
      exact f_cMac_workCase_132 σ0 (2 : Int32) x1 (jL_put 30000 (jL_put 30000 σ 97 ((v_cMac_frame σ) + (jI_at 1201 (σ.1 33) x1)) (jL_at 3000 (σ.2 85) (v_cHea_numberOf (σ.2 8 15) σ))) 97 (((v_cMac_frame σ) + (jI_at 1201 (σ.1 33) x1)) + (1 : Int32)) (jL_at 3000 (σ.2 87) (v_cHea_numberOf (σ.2 8 15) (jL_put 30000 σ 97 ((v_cMac_frame σ) + (jI_at 1201 (σ.1 33) x1)) (jL_at 3000 (σ.2 85) (v_cHea_numberOf (σ.2 8 15) σ)))))) (jFr.lp (jFr.lp h0 (by decide)) (by decide)) _ h
    · rw [if_neg hc] at h
      obtain ⟨q3, hq, h⟩ := Option.bind_eq_some_iff.mp h
      have f_q3 := jFr.step h0 (f_cTre_part σ x1 (1 : Int32) σ jFr.rfl q3 hq) (by decide +kernel) (by decide +kernel)
      obtain ⟨q4, hq, h⟩ := Option.bind_eq_some_iff.mp h
      have f_q4 := jFr.step f_q3 (f_cMac_beginPart q3.2 q3.1 (100 : Int32) q3.2 jFr.rfl q4 hq) (by decide +kernel) (by decide +kernel)
      have h9 := Option.some.inj h
      subst h9
      exact f_q4
  · rw [if_neg hc] at h
    obtain ⟨q5, hq, h⟩ := Option.bind_eq_some_iff.mp h
    have f_q5 := jFr.step h0 (f_cTre_part σ x1 (0 : Int32) σ jFr.rfl q5 hq) (by decide +kernel) (by decide +kernel)
    obtain ⟨q6, hq, h⟩ := Option.bind_eq_some_iff.mp h
    have f_q6 := jFr.step f_q5 (f_cMac_beginPart q5.2 q5.1 (1 : Int32) q5.2 jFr.rfl q6 hq) (by decide +kernel) (by decide +kernel)
    have h9 := Option.some.inj h
    subst h9
    exact f_q6
def ms_cMac_workCons : List Nat := [85, 87, 89, 91, 93, 99, 101, 103, 105]
def fs_cMac_workCons : List (Nat × Nat) := [(8, 11), (8, 14), (8, 15), (9, 11), (9, 12), (9, 15), (9, 16)]
theorem f_cMac_workCons (σ0 : jx_S) (x1 : Int32) (σ : jx_S) (h0 : jFr ms_cMac_workCons fs_cMac_workCons σ0 σ) (t : jx_S) (h : p_cMac_workCons x1 σ = some t) : fkV ms_cMac_workCons fs_cMac_workCons σ0 t := by
  unfold p_cMac_workCons at h
  rcases Classical.em (¬ (σ.1 9 11) = (3000 : Int32)) with hc | hc
  · rw [if_pos hc] at h
    obtain ⟨q1, hq, h⟩ := Option.bind_eq_some_iff.mp h
    have f_q1 := jFr.step (jFr.i h0 (by decide)) (f_cTre_part (jx_i σ 9 11 ((σ.1 9 11) + (1 : Int32))) x1 (0 : Int32) (jx_i σ 9 11 ((σ.1 9 11) + (1 : Int32))) jFr.rfl q1 hq) (by decide +kernel) (by decide +kernel)
    obtain ⟨q2, hq, h⟩ := Option.bind_eq_some_iff.mp h
    have f_q2 := jFr.step f_q1 (f_cMac_putOff 33 q1.2 q1.1 (0 : Int32) q1.2 jFr.rfl q2 hq) (by decide +kernel) (by decide +kernel)
    obtain ⟨q3, hq, h⟩ := Option.bind_eq_some_iff.mp h
    have f_q3 := jFr.step (jFr.lp f_q2 (by decide)) (f_cTre_part (jL_put 3000 q2.2 85 (σ.1 9 11) q2.1) x1 (1 : Int32) (jL_put 3000 q2.2 85 (σ.1 9 11) q2.1) jFr.rfl q3 hq) (by decide +kernel) (by decide +kernel)
    obtain ⟨q4, hq, h⟩ := Option.bind_eq_some_iff.mp h
    have f_q4 := jFr.step f_q3 (f_cMac_putOff 33 q3.2 q3.1 (0 : Int32) q3.2 jFr.rfl q4 hq) (by decide +kernel) (by decide +kernel)
    obtain ⟨q5, hq, h⟩ := Option.bind_eq_some_iff.mp h
    have f_q5 := jFr.step (jFr.lp f_q4 (by decide)) (f_cMac_finish (jL_put 3000 q4.2 87 (σ.1 9 11) q4.1) (v_cHea_hold (3 : Int32) (σ.1 9 11) (jL_put 3000 q4.2 87 (σ.1 9 11) q4.1)) (jL_put 3000 q4.2 87 (σ.1 9 11) q4.1) jFr.rfl q5 hq) (by decide +kernel) (by decide +kernel)
    have h9 := Option.some.inj h
    subst h9
    exact f_q5
  · rw [if_neg hc] at h
    have h9 := Option.some.inj h
    subst h9
    exact (jFr.i h0 (by decide))
def ms_cMac_join : List Nat := []
def fs_cMac_join : List (Nat × Nat) := []
theorem f_cMac_join_83 (σ0 : jx_S) (x1 : Int32) (x2 : Int32) (σ : jx_S) (h0 : jFr ms_cMac_join fs_cMac_join σ0 σ) (t : (Int32 × jx_S)) (h : p_cMac_join_83 x1 x2 σ = some t) : fkI ms_cMac_join fs_cMac_join σ0 t := by
  unfold p_cMac_join_83 at h
  rcases Classical.em (x2 ≤ x1) with hc | hc
  · rw [if_pos hc] at h
    have h9 := Option.some.inj h
    subst h9
    exact h0
  · rw [if_neg hc] at h
    have h9 := Option.some.inj h
    subst h9
    exact h0
theorem f_cMac_join (σ0 : jx_S) (x0 : Int32) (x1 : Int32) (x2 : Int32) (σ : jx_S) (h0 : jFr ms_cMac_join fs_cMac_join σ0 σ) (t : (Int32 × jx_S)) (h : p_cMac_join x0 x1 x2 σ = some t) : fkI ms_cMac_join fs_cMac_join σ0 t := by
  unfold p_cMac_join at h
  rcases Classical.em (x0 = 19) with hc0 | hc0
  · rw [if_pos hc0] at h
    rcases Classical.em (¬ x1 = x2) with hc | hc
    · rw [if_pos hc] at h
      have h9 := Option.some.inj h
      subst h9
      exact h0
    · rw [if_neg hc] at h
      have h9 := Option.some.inj h
      subst h9
      exact h0
  · rw [if_neg hc0] at h
    rcases Classical.em (x0 = 23) with hc1 | hc1
    · rw [if_pos hc1] at h
      have h9 := Option.some.inj h
      subst h9
      exact h0
    · rw [if_neg hc1] at h
      rcases Classical.em (x0 = 24) with hc2 | hc2
      · rw [if_pos hc2] at h
        have h9 := Option.some.inj h
        subst h9
        exact h0
      · rw [if_neg hc2] at h
        rcases Classical.em (x0 = 25) with hc3 | hc3
        · rw [if_pos hc3] at h
          have h9 := Option.some.inj h
          subst h9
          exact h0
        · rw [if_neg hc3] at h
          rcases Classical.em (x0 = 26) with hc4 | hc4
          · rw [if_pos hc4] at h
            rcases Classical.em (¬ x2 = 0) with hc | hc
            · rw [if_pos hc] at h
              obtain ⟨hi, h⟩ := jx_ite0_inv h
              have h9 := Option.some.inj h
              subst h9
              exact h0
            · rw [if_neg hc] at h
              have h9 := Option.some.inj h
              subst h9
              exact h0
          · rw [if_neg hc4] at h
            exact f_cMac_join_83 σ0 x1 x2 σ h0 _ h
def ms_cMac_compute : List Nat := []
def fs_cMac_compute : List (Nat × Nat) := [(8, 11), (8, 14), (8, 15)]
theorem f_cMac_compute_16 (σ0 : jx_S) (x1 : Int32) (x2 : Int32) (x3 : Int32) (σ : jx_S) (h0 : jFr ms_cMac_compute fs_cMac_compute σ0 σ) (t : jx_S) (h : p_cMac_compute_16 x1 x2 x3 σ = some t) : fkV ms_cMac_compute fs_cMac_compute σ0 t := by
  unfold p_cMac_compute_16 at h
  obtain ⟨q1, hq, h⟩ := Option.bind_eq_some_iff.mp h
  have f_q1 := jFr.step h0 (f_cMac_join σ x1 x2 x3 σ jFr.rfl q1 hq) (by decide +kernel) (by decide +kernel)
  obtain ⟨q2, hq, h⟩ := Option.bind_eq_some_iff.mp h
  have f_q2 := jFr.step f_q1 (f_cMac_finish q1.2 (v_cHea_hold (1 : Int32) q1.1 q1.2) q1.2 jFr.rfl q2 hq) (by decide +kernel) (by decide +kernel)
  have h9 := Option.some.inj h
  subst h9
  exact f_q2
theorem f_cMac_compute (σ0 : jx_S) (x1 : Int32) (x2 : Int32) (x3 : Int32) (σ : jx_S) (h0 : jFr ms_cMac_compute fs_cMac_compute σ0 σ) (t : jx_S) (h : p_cMac_compute x1 x2 x3 σ = some t) : fkV ms_cMac_compute fs_cMac_compute σ0 t := by
  unfold p_cMac_compute at h
  rcases Classical.em (¬ x1 = (26 : Int32)) with hc | hc
  · rw [if_pos hc] at h
    exact f_cMac_compute_16 σ0 x1 x2 x3 σ h0 _ h
  · rw [if_neg hc] at h
    rcases Classical.em (¬ x3 = 0) with hc | hc
    · rw [if_pos hc] at h
      exact f_cMac_compute_16 σ0 x1 x2 x3 σ h0 _ h
    · rw [if_neg hc] at h
      have h9 := Option.some.inj h
      subst h9
      exact (jFr.i h0 (by decide))
def ms_cMac_workSign : List Nat := [71, 75, 77, 79, 81]
def fs_cMac_workSign : List (Nat × Nat) := [(8, 11), (8, 14), (8, 15)]
theorem f_cMac_workSign (σ0 : jx_S) (x1 : Int32) (x2 : Int32) (σ : jx_S) (h0 : jFr ms_cMac_workSign fs_cMac_workSign σ0 σ) (t : jx_S) (h : p_cMac_workSign x1 x2 σ = some t) : fkV ms_cMac_workSign fs_cMac_workSign σ0 t := by
  unfold p_cMac_workSign at h
  rcases Classical.em (¬ x2 = 0) with hc | hc
  · rw [if_pos hc] at h
    rcases Classical.em (¬ x2 = (1 : Int32)) with hc | hc
    · rw [if_pos hc] at h
      obtain ⟨q1, hq, h⟩ := Option.bind_eq_some_iff.mp h
      have f_q1 := jFr.step h0 (f_cMac_compute σ (jI_at 1201 (σ.1 23) x1) (v_cHea_numberOf (jL_at 2000 (σ.2 81) (((σ.1 8 11) - (1 : Int32)) * (8 : Int32))) σ) (v_cHea_numberOf (σ.2 8 15) σ) σ jFr.rfl q1 hq) (by decide +kernel) (by decide +kernel)
      have h9 := Option.some.inj h
      subst h9
      exact f_q1
    · rw [if_neg hc] at h
      obtain ⟨q2, hq, h⟩ := Option.bind_eq_some_iff.mp h
      have f_q2 := jFr.step (jFr.lp h0 (by decide)) (f_cTre_part (jL_put 2000 σ 81 (((σ.1 8 11) - (1 : Int32)) * (8 : Int32)) (σ.2 8 15)) x1 (1 : Int32) (jL_put 2000 σ 81 (((σ.1 8 11) - (1 : Int32)) * (8 : Int32)) (σ.2 8 15)) jFr.rfl q2 hq) (by decide +kernel) (by decide +kernel)
      obtain ⟨q3, hq, h⟩ := Option.bind_eq_some_iff.mp h
      have f_q3 := jFr.step f_q2 (f_cMac_beginPart q2.2 q2.1 (2 : Int32) q2.2 jFr.rfl q3 hq) (by decide +kernel) (by decide +kernel)
      have h9 := Option.some.inj h
      subst h9
      exact f_q3
  · rw [if_neg hc] at h
    obtain ⟨q4, hq, h⟩ := Option.bind_eq_some_iff.mp h
    have f_q4 := jFr.step h0 (f_cTre_part σ x1 (0 : Int32) σ jFr.rfl q4 hq) (by decide +kernel) (by decide +kernel)
    obtain ⟨q5, hq, h⟩ := Option.bind_eq_some_iff.mp h
    have f_q5 := jFr.step f_q4 (f_cMac_beginPart q4.2 q4.1 (1 : Int32) q4.2 jFr.rfl q5 hq) (by decide +kernel) (by decide +kernel)
    have h9 := Option.some.inj h
    subst h9
    exact f_q5
def ms_cMac_workOn : List Nat := [71, 75, 77, 79, 81, 83, 85, 87, 89, 91, 93, 95, 97, 99, 101, 103, 105]
def fs_cMac_workOn : List (Nat × Nat) := [(8, 11), (8, 14), (8, 15), (9, 11), (9, 12), (9, 13), (9, 14), (9, 15), (9, 16)]
theorem f_cMac_workOn_152 (σ0 : jx_S) (x1 : Int32) (σ : jx_S) (h0 : jFr ms_cMac_workOn fs_cMac_workOn σ0 σ) (t : jx_S) (h : p_cMac_workOn_152 x1 σ = some t) : fkV ms_cMac_workOn fs_cMac_workOn σ0 t := by
  unfold p_cMac_workOn_152 at h
  obtain ⟨q1, hq, h⟩ := Option.bind_eq_some_iff.mp h
  have f_q1 := jFr.step h0 (f_cMac_finish σ (v_cMac_literal x1 σ) σ jFr.rfl q1 hq) (by decide +kernel) (by decide +kernel)
  have h9 := Option.some.inj h
  subst h9
  exact f_q1
theorem f_cMac_workOn_247 (σ0 : jx_S) (x1 : Int32) (x2 : Int32) (σ : jx_S) (h0 : jFr ms_cMac_workOn fs_cMac_workOn σ0 σ) (t : jx_S) (h : p_cMac_workOn_247 x1 x2 σ = some t) : fkV ms_cMac_workOn fs_cMac_workOn σ0 t := by
  unfold p_cMac_workOn_247 at h
  obtain ⟨q9, hq, h⟩ := Option.bind_eq_some_iff.mp h
  have f_q9 := jFr.step h0 (f_cMac_workSign σ x1 x2 σ jFr.rfl q9 hq) (by decide +kernel) (by decide +kernel)
  have h9 := Option.some.inj h
  subst h9
  exact f_q9
theorem f_cMac_workOn (σ0 : jx_S) (x1 : Int32) (x2 : Int32) (σ : jx_S) (h0 : jFr ms_cMac_workOn fs_cMac_workOn σ0 σ) (t : jx_S) (h : p_cMac_workOn x1 x2 σ = some t) : fkV ms_cMac_workOn fs_cMac_workOn σ0 t := by
  unfold p_cMac_workOn at h
  rcases Classical.em (¬ x2 = (100 : Int32)) with hc | hc
  · rw [if_pos hc] at h
    rcases Classical.em ((jI_at 1201 (σ.1 23) x1) = 2) with hc0 | hc0
    · rw [if_pos hc0] at h
      exact f_cMac_workOn_152 σ0 x1 σ h0 _ h
    · rw [if_neg hc0] at h
      rcases Classical.em ((jI_at 1201 (σ.1 23) x1) = 5) with hc1 | hc1
      · rw [if_pos hc1] at h
        obtain ⟨q2, hq, h⟩ := Option.bind_eq_some_iff.mp h
        have f_q2 := jFr.step h0 (f_cMac_workLet σ x1 x2 σ jFr.rfl q2 hq) (by decide +kernel) (by decide +kernel)
        have h9 := Option.some.inj h
        subst h9
        exact f_q2
      · rw [if_neg hc1] at h
        rcases Classical.em ((jI_at 1201 (σ.1 23) x1) = 7) with hc2 | hc2
        · rw [if_pos hc2] at h
          obtain ⟨q3, hq, h⟩ := Option.bind_eq_some_iff.mp h
          have f_q3 := jFr.step h0 (f_cMac_workIf σ x1 x2 σ jFr.rfl q3 hq) (by decide +kernel) (by decide +kernel)
          have h9 := Option.some.inj h
          subst h9
          exact f_q3
        · rw [if_neg hc2] at h
          rcases Classical.em ((jI_at 1201 (σ.1 23) x1) = 10) with hc3 | hc3
          · rw [if_pos hc3] at h
            obtain ⟨q4, hq, h⟩ := Option.bind_eq_some_iff.mp h
            have f_q4 := jFr.step h0 (f_cMac_workCase σ x1 x2 σ jFr.rfl q4 hq) (by decide +kernel) (by decide +kernel)
            have h9 := Option.some.inj h
            subst h9
            exact f_q4
          · rw [if_neg hc3] at h
            rcases Classical.em ((jI_at 1201 (σ.1 23) x1) = 13) with hc4 | hc4
            · rw [if_pos hc4] at h
              exact f_cMac_workOn_152 σ0 x1 σ h0 _ h
            · rw [if_neg hc4] at h
              rcases Classical.em ((jI_at 1201 (σ.1 23) x1) = 14) with hc5 | hc5
              · rw [if_pos hc5] at h
                obtain ⟨q5, hq, h⟩ := Option.bind_eq_some_iff.mp h
                have f_q5 := jFr.step h0 (f_cMac_workCons σ x1 σ jFr.rfl q5 hq) (by decide +kernel) (by decide +kernel)
                have h9 := Option.some.inj h
                subst h9
                exact f_q5
              · rw [if_neg hc5] at h
                rcases Classical.em ((jI_at 1201 (σ.1 23) x1) = 15) with hc6 | hc6
                · rw [if_pos hc6] at h
                  have h9 := Option.some.inj h
                  subst h9
                  exact (jFr.i h0 (by decide))
                · rw [if_neg hc6] at h
                  rcases Classical.em ((jI_at 1201 (σ.1 23) x1) = 28) with hc7 | hc7
                  · rw [if_pos hc7] at h
                    rcases Classical.em ((jI_at 1201 (σ.1 35) x1) ≤ 0) with hc | hc
                    · rw [if_pos hc] at h
                      obtain ⟨q6, hq, h⟩ := Option.bind_eq_some_iff.mp h
                      have f_q6 := jFr.step h0 (f_cMac_workLocal σ x1 x2 σ jFr.rfl q6 hq) (by decide +kernel) (by decide +kernel)
                      have h9 := Option.some.inj h
                      subst h9
                      exact f_q6
                    · rw [if_neg hc] at h
                      obtain ⟨q7, hq, h⟩ := Option.bind_eq_some_iff.mp h
                      have f_q7 := jFr.step h0 (f_cMac_callHeld σ x1 σ jFr.rfl q7 hq) (by decide +kernel) (by decide +kernel)
                      have h9 := Option.some.inj h
                      subst h9
                      exact f_q7
                  · rw [if_neg hc7] at h
                    rcases Classical.em ((jI_at 1201 (σ.1 23) x1) = 29) with hc8 | hc8
                    · rw [if_pos hc8] at h
                      obtain ⟨q8, hq, h⟩ := Option.bind_eq_some_iff.mp h
                      have f_q8 := jFr.step h0 (f_cMac_workCall σ x1 x2 σ jFr.rfl q8 hq) (by decide +kernel) (by decide +kernel)
                      have h9 := Option.some.inj h
                      subst h9
                      exact f_q8
                    · rw [if_neg hc8] at h
                      exact f_cMac_workOn_247 σ0 x1 x2 σ h0 _ h
  · rw [if_neg hc] at h
    obtain ⟨q10, hq, h⟩ := Option.bind_eq_some_iff.mp h
    have f_q10 := jFr.step h0 (f_cMac_finish σ (σ.2 8 15) σ jFr.rfl q10 hq) (by decide +kernel) (by decide +kernel)
    have h9 := Option.some.inj h
    subst h9
    exact f_q10
def ms_cMac_force : List Nat := [71, 75, 77, 79, 93]
def fs_cMac_force : List (Nat × Nat) := [(8, 11), (8, 14), (8, 15), (8, 18)]
theorem f_cMac_force (σ0 : jx_S) (x1 : Int64) (σ : jx_S) (h0 : jFr ms_cMac_force fs_cMac_force σ0 σ) (t : jx_S) (h : p_cMac_force x1 σ = some t) : fkV ms_cMac_force fs_cMac_force σ0 t := by
  unfold p_cMac_force at h
  rcases Classical.em ((v_cHea_tagOf x1 σ) = (4 : Int32)) with hc | hc
  · rw [if_pos hc] at h
    rcases Classical.em (¬ (jI_at 3000 (σ.1 93) (v_cHea_numberOf x1 σ)) = (2 : Int32)) with hc | hc
    · rw [if_pos hc] at h
      obtain ⟨q1, hq, h⟩ := Option.bind_eq_some_iff.mp h
      have f_q1 := jFr.step (jFr.i h0 (by decide)) (f_cMac_beginPutOff (jx_i σ 8 18 (v_cHea_numberOf x1 σ)) (v_cHea_numberOf x1 σ) (jx_i σ 8 18 (v_cHea_numberOf x1 σ)) jFr.rfl q1 hq) (by decide +kernel) (by decide +kernel)
      have h9 := Option.some.inj h
      subst h9
      exact f_q1
    · rw [if_neg hc] at h
      have h9 := Option.some.inj h
      subst h9
      exact (jFr.l h0 (by decide))
  · rw [if_neg hc] at h
    have h9 := Option.some.inj h
    subst h9
    exact (jFr.l h0 (by decide))
def ms_cMac_stepInto : List Nat := [71, 75, 77, 79, 93]
def fs_cMac_stepInto : List (Nat × Nat) := [(8, 11), (8, 14), (8, 15), (8, 16), (8, 17), (8, 18)]
theorem f_cMac_stepInto (σ0 : jx_S) (x1 : Int64) (σ : jx_S) (h0 : jFr ms_cMac_stepInto fs_cMac_stepInto σ0 σ) (t : jx_S) (h : p_cMac_stepInto x1 σ = some t) : fkV ms_cMac_stepInto fs_cMac_stepInto σ0 t := by
  unfold p_cMac_stepInto at h
  rcases Classical.em ((v_cHea_tagOf x1 σ) = (3 : Int32)) with hc | hc
  · rw [if_pos hc] at h
    obtain ⟨q1, hq, h⟩ := Option.bind_eq_some_iff.mp h
    have f_q1 := jFr.step (jFr.i (jFr.i h0 (by decide)) (by decide)) (f_cMac_force (jx_i (jx_i σ 8 17 (1 : Int32)) 8 16 (v_cHea_numberOf x1 (jx_i σ 8 17 (1 : Int32)))) (jL_at 3000 (σ.2 85) (v_cHea_numberOf x1 (jx_i σ 8 17 (1 : Int32)))) (jx_i (jx_i σ 8 17 (1 : Int32)) 8 16 (v_cHea_numberOf x1 (jx_i σ 8 17 (1 : Int32)))) jFr.rfl q1 hq) (by decide +kernel) (by decide +kernel)
    have h9 := Option.some.inj h
    subst h9
    exact f_q1
  · rw [if_neg hc] at h
    have h9 := Option.some.inj h
    subst h9
    exact (jFr.i (jFr.ip h0 (by decide)) (by decide))
def ms_cMac_goAlong : List Nat := [71, 73, 75, 77, 79, 93, 95]
def fs_cMac_goAlong : List (Nat × Nat) := [(8, 11), (8, 14), (8, 15), (8, 16), (8, 17), (8, 18), (9, 13)]
theorem f_cMac_goAlong_38 (σ0 : jx_S) (x1 : Int32) (σ : jx_S) (h0 : jFr ms_cMac_goAlong fs_cMac_goAlong σ0 σ) (t : jx_S) (h : p_cMac_goAlong_38 x1 σ = some t) : fkV ms_cMac_goAlong fs_cMac_goAlong σ0 t := by
  unfold p_cMac_goAlong_38 at h
  rcases Classical.em (¬ (σ.1 8 17) = 0) with hc | hc
  · rw [if_pos hc] at h
    rcases Classical.em (¬ (x1 + (1 : Int32)) = (50 : Int32)) with hc | hc
    · rw [if_pos hc] at h
      obtain ⟨q1, hq, h⟩ := Option.bind_eq_some_iff.mp h
      have f_q1 := jFr.step (jFr.ip (jFr.ip (jFr.i h0 (by decide)) (by decide)) (by decide)) (f_cMac_force (jI_put 10 (jI_put 50 (jx_i σ 8 17 (0 : Int32)) 73 x1 (v_cHea_numberOf (σ.2 8 15) (jx_i σ 8 17 (0 : Int32)))) 71 (6 : Int32) (x1 + (1 : Int32))) (jL_at 3000 (σ.2 87) (σ.1 8 16)) (jI_put 10 (jI_put 50 (jx_i σ 8 17 (0 : Int32)) 73 x1 (v_cHea_numberOf (σ.2 8 15) (jx_i σ 8 17 (0 : Int32)))) 71 (6 : Int32) (x1 + (1 : Int32))) jFr.rfl q1 hq) (by decide +kernel) (by decide +kernel)
      have h9 := Option.some.inj h
      subst h9
      exact f_q1
    · rw [if_neg hc] at h
      have h9 := Option.some.inj h
      subst h9
      exact (jFr.i (jFr.ip (jFr.ip (jFr.i h0 (by decide)) (by decide)) (by decide)) (by decide))
  · rw [if_neg hc] at h
    obtain ⟨q2, hq, h⟩ := Option.bind_eq_some_iff.mp h
    have f_q2 := jFr.step h0 (f_cMac_stepInto σ (σ.2 8 15) σ jFr.rfl q2 hq) (by decide +kernel) (by decide +kernel)
    have h9 := Option.some.inj h
    subst h9
    exact f_q2
theorem f_cMac_goAlong (σ0 : jx_S) (σ : jx_S) (h0 : jFr ms_cMac_goAlong fs_cMac_goAlong σ0 σ) (t : jx_S) (h : p_cMac_goAlong σ = some t) : fkV ms_cMac_goAlong fs_cMac_goAlong σ0 t := by
  unfold p_cMac_goAlong at h
  rcases Classical.em ((σ.1 8 18) = (-1 : Int32)) with hc | hc
  · rw [if_pos hc] at h
    exact f_cMac_goAlong_38 σ0 (jI_at 10 (σ.1 71) (6 : Int32)) σ h0 _ h
  · rw [if_neg hc] at h
    obtain ⟨q3, hq, h⟩ := Option.bind_eq_some_iff.mp h
    have f_q3 := jFr.step h0 (f_cHea_settle σ (σ.1 8 18) (σ.2 8 15) σ jFr.rfl q3 hq) (by decide +kernel) (by decide +kernel)
    exact f_cMac_goAlong_38 σ0 (jI_at 10 (σ.1 71) (6 : Int32)) (jx_i q3 8 18 (-1 : Int32)) (jFr.i f_q3 (by decide)) _ h
