def ms_r_putGot : List Nat := [150]
def fs_r_putGot : List (Nat × Nat) := []
def fk_r_putGot_10 (σ0 : jx_S) (t : ((Int32 × Int64 × Int32 × jx_S) ⊕ jx_S)) : Prop := match t with
  | .inl s => jFr ms_r_putGot fs_r_putGot σ0 (s.2.2.2)
  | .inr t => fkV ms_r_putGot fs_r_putGot σ0 t
def fk_r_putGot_27 (σ0 : jx_S) (t : ((Int32 × Int32 × Int32 × Int32 × jx_S) ⊕ ((Int32 × Int64 × Int32 × jx_S) ⊕ jx_S))) : Prop := match t with
  | .inl s => jFr ms_r_putGot fs_r_putGot σ0 (s.2.2.2.2)
  | .inr t => fk_r_putGot_10 σ0 t
theorem f_r_putGot_27_s (σ0 : jx_S) (x3 : Int32) (x6 : Int32) (x7 : Int32) (x8 : Int32) (σ : jx_S) (h0 : jFr ms_r_putGot fs_r_putGot σ0 σ) (t : ((Int32 × Int32 × Int32 × Int32 × jx_S) ⊕ ((Int32 × Int64 × Int32 × jx_S) ⊕ jx_S))) (h : p_r_putGot_27_s x3 x6 x7 x8 σ = some t) : fk_r_putGot_27 σ0 t := by
  unfold p_r_putGot_27_s at h
  obtain ⟨hi, h⟩ := jx_ite0_inv h
  rcases Classical.em (((σ.1 159) (x7).toNatClampNeg) ≤ x8) with hc | hc
  · rw [if_pos hc] at h
    obtain ⟨t9_3, h9_3, h8_3⟩ := Option.map_eq_some_iff.mp h
    clear h
    subst h8_3
    have h := h9_3
    clear h9_3
    obtain ⟨hi, h⟩ := jx_ite0_inv h
    obtain ⟨hi, h⟩ := jx_ite0_inv h
    have h9 := Option.some.inj h
    subst h9
    exact h0
  · rw [if_neg hc] at h
    obtain ⟨hi, h⟩ := jx_ite0_inv h
    obtain ⟨hi, h⟩ := jx_ite0_inv h
    obtain ⟨hi, h⟩ := jx_ite0_inv h
    obtain ⟨hi, h⟩ := jx_ite0_inv h
    have h9 := Option.some.inj h
    subst h9
    exact (jFr.la h0 (by decide))
theorem f_r_putGot_27 (σ0 : jx_S) (x3 : Int32) (x6 : Int32) (x7 : Int32) (x8 : Int32) (σ : jx_S) (h0 : jFr ms_r_putGot fs_r_putGot σ0 σ) (t : ((Int32 × Int64 × Int32 × jx_S) ⊕ jx_S)) (h : p_r_putGot_27 x3 x6 x7 x8 σ = some t) : fk_r_putGot_10 σ0 t := by
  refine jx_loop_ok (E := fun s t => jFr ms_r_putGot fs_r_putGot σ0 (s.2.2.2.2) → fk_r_putGot_10 σ0 t) (fun s t hs => ?_) _ _ _ h h0
  cases t with
  | inl s1 => exact fun b hb hf => hb (f_r_putGot_27_s σ0 (s.1) (s.2.1) (s.2.2.1) (s.2.2.2.1) (s.2.2.2.2) hf _ hs)
  | inr b => exact fun hf => f_r_putGot_27_s σ0 (s.1) (s.2.1) (s.2.2.1) (s.2.2.2.1) (s.2.2.2.2) hf _ hs
theorem f_r_putGot_10_s (σ0 : jx_S) (x3 : Int32) (x4 : Int64) (x6 : Int32) (σ : jx_S) (h0 : jFr ms_r_putGot fs_r_putGot σ0 σ) (t : ((Int32 × Int64 × Int32 × jx_S) ⊕ jx_S)) (h : p_r_putGot_10_s x3 x4 x6 σ = some t) : fk_r_putGot_10 σ0 t := by
  unfold p_r_putGot_10_s at h
  rcases Classical.em (¬ (v_r_tagOf x4 σ) = (5 : Int32)) with hc | hc
  · rw [if_pos hc] at h
    obtain ⟨t9_2, h9_2, h8_2⟩ := Option.map_eq_some_iff.mp h
    clear h
    subst h8_2
    have h := h9_2
    clear h9_2
    have h9 := Option.some.inj h
    subst h9
    exact h0
  · rw [if_neg hc] at h
    exact f_r_putGot_27 σ0 x3 x6 (x4).toInt32 (0 : Int32) σ h0 _ h
theorem f_r_putGot_10 (σ0 : jx_S) (x3 : Int32) (x4 : Int64) (x6 : Int32) (σ : jx_S) (h0 : jFr ms_r_putGot fs_r_putGot σ0 σ) (t : jx_S) (h : p_r_putGot_10 x3 x4 x6 σ = some t) : fkV ms_r_putGot fs_r_putGot σ0 t := by
  refine jx_loop_ok (E := fun s t => jFr ms_r_putGot fs_r_putGot σ0 (s.2.2.2) → fkV ms_r_putGot fs_r_putGot σ0 t) (fun s t hs => ?_) _ _ _ h h0
  cases t with
  | inl s1 => exact fun b hb hf => hb (f_r_putGot_10_s σ0 (s.1) (s.2.1) (s.2.2.1) (s.2.2.2) hf _ hs)
  | inr b => exact fun hf => f_r_putGot_10_s σ0 (s.1) (s.2.1) (s.2.2.1) (s.2.2.2) hf _ hs
theorem f_r_putGot (σ0 : jx_S) (x1 : Int64) (x3 : Int32) (σ : jx_S) (h0 : jFr ms_r_putGot fs_r_putGot σ0 σ) (t : jx_S) (h : p_r_putGot x1 x3 σ = some t) : fkV ms_r_putGot fs_r_putGot σ0 t := by
  unfold p_r_putGot at h
  obtain ⟨q1, hq, h⟩ := Option.bind_eq_some_iff.mp h
  have f_q1 := jFr.step h0 (f_r_gotBy σ x1 σ jFr.rfl q1 hq) (by decide +kernel) (by decide +kernel)
  exact f_r_putGot_10 σ0 x3 x1 q1.1 q1.2 f_q1 _ h
def ms_r_workLocal : List Nat := [153, 154, 161, 162, 163, 164]
def fs_r_workLocal : List (Nat × Nat) := [(106, 82), (106, 83), (106, 87), (106, 88), (106, 90)]
theorem f_r_workLocal (σ0 : jx_S) (x1 : Int32) (x2 : Int64) (σ : jx_S) (h0 : jFr ms_r_workLocal fs_r_workLocal σ0 σ) (t : jx_S) (h : p_r_workLocal x1 x2 σ = some t) : fkV ms_r_workLocal fs_r_workLocal σ0 t := by
  unfold p_r_workLocal at h
  obtain ⟨hi, h⟩ := jx_ite0_inv h
  rcases Classical.em (¬ ((σ.1 163) (x1).toNatClampNeg) = (1 : Int32)) with hc | hc
  · rw [if_pos hc] at h
    rcases Classical.em ((v_r_tagOf x2 σ) = (3 : Int32)) with hc | hc
    · rw [if_pos hc] at h
      obtain ⟨hi, h⟩ := jx_ite0_inv h
      rcases Classical.em (¬ ((σ.1 153) ((x2).toInt32).toNatClampNeg) = (2 : Int32)) with hc | hc
      · rw [if_pos hc] at h
        obtain ⟨hi, h⟩ := jx_ite0_inv h
        rcases Classical.em (¬ ((σ.1 153) ((x2).toInt32).toNatClampNeg) = (1 : Int32)) with hc | hc
        · rw [if_pos hc] at h
          obtain ⟨hi, h⟩ := jx_ite0_inv h
          obtain ⟨hi, h⟩ := jx_ite0_inv h
          obtain ⟨hi, h⟩ := jx_ite0_inv h
          obtain ⟨hi, h⟩ := jx_ite0_inv h
          obtain ⟨q1, hq, h⟩ := Option.bind_eq_some_iff.mp h
          have f_q1 := jFr.step (jFr.ia (jFr.ia h0 (by decide)) (by decide)) (f_r_begin (jx_i (jx_i σ 153 ((x2).toInt32).toNatClampNeg (1 : Int32)) 163 (x1).toNatClampNeg (1 : Int32)) ((σ.1 151) ((x2).toInt32).toNatClampNeg) ((σ.1 152) ((x2).toInt32).toNatClampNeg) (x2).toInt32 (jx_i (jx_i σ 153 ((x2).toInt32).toNatClampNeg (1 : Int32)) 163 (x1).toNatClampNeg (1 : Int32)) jFr.rfl q1 hq) (by decide +kernel) (by decide +kernel)
          have h9 := Option.some.inj h
          subst h9
          exact f_q1
        · rw [if_neg hc] at h
          have h9 := Option.some.inj h
          subst h9
          exact (jFr.i h0 (by decide))
      · rw [if_neg hc] at h
        obtain ⟨hi, h⟩ := jx_ite0_inv h
        obtain ⟨q2, hq, h⟩ := Option.bind_eq_some_iff.mp h
        have f_q2 := jFr.step h0 (f_r_finish σ ((σ.2 154) ((x2).toInt32).toNatClampNeg) σ jFr.rfl q2 hq) (by decide +kernel) (by decide +kernel)
        have h9 := Option.some.inj h
        subst h9
        exact f_q2
    · rw [if_neg hc] at h
      obtain ⟨q3, hq, h⟩ := Option.bind_eq_some_iff.mp h
      have f_q3 := jFr.step h0 (f_r_finish σ x2 σ jFr.rfl q3 hq) (by decide +kernel) (by decide +kernel)
      have h9 := Option.some.inj h
      subst h9
      exact f_q3
  · rw [if_neg hc] at h
    obtain ⟨q4, hq, h⟩ := Option.bind_eq_some_iff.mp h
    have f_q4 := jFr.step h0 (f_r_finish σ (σ.2 106 90) σ jFr.rfl q4 hq) (by decide +kernel) (by decide +kernel)
    have h9 := Option.some.inj h
    subst h9
    exact f_q4
def ms_r_call : List Nat := [150, 161, 162, 163, 164]
def fs_r_call : List (Nat × Nat) := [(106, 62), (106, 82), (106, 83), (106, 85), (106, 87), (106, 88), (106, 91)]
def fk_r_call_66 (σ0 : jx_S) (t : ((Int64 × Int32 × Int32 × Int32 × Int32 × jx_S) ⊕ jx_S)) : Prop := match t with
  | .inl s => jFr ms_r_call fs_r_call σ0 (s.2.2.2.2.2)
  | .inr t => fkV ms_r_call fs_r_call σ0 t
def fk_r_call_122 (σ0 : jx_S) (t : ((Int32 × Int32 × Int32 × Int32 × Int32 × jx_S) ⊕ jx_S)) : Prop := match t with
  | .inl s => jFr ms_r_call fs_r_call σ0 (s.2.2.2.2.2)
  | .inr t => fkV ms_r_call fs_r_call σ0 t
theorem f_r_call_122_s (σ0 : jx_S) (x3 : Int32) (x4 : Int32) (x5 : Int32) (x6 : Int32) (x7 : Int32) (σ : jx_S) (h0 : jFr ms_r_call fs_r_call σ0 σ) (t : ((Int32 × Int32 × Int32 × Int32 × Int32 × jx_S) ⊕ jx_S)) (h : p_r_call_122_s x3 x4 x5 x6 x7 σ = some t) : fk_r_call_122 σ0 t := by
  unfold p_r_call_122_s at h
  rcases Classical.em (x3 ≤ x7) with hc | hc
  · rw [if_pos hc] at h
    obtain ⟨t9_5, h9_5, h8_5⟩ := Option.map_eq_some_iff.mp h
    clear h
    subst h8_5
    have h := h9_5
    clear h9_5
    obtain ⟨hi, h⟩ := jx_ite0_inv h
    obtain ⟨q4, hq, h⟩ := Option.bind_eq_some_iff.mp h
    have f_q4 := jFr.step h0 (f_r_begin σ ((σ.1 131) (x4).toNatClampNeg) x5 (-1 : Int32) σ jFr.rfl q4 hq) (by decide +kernel) (by decide +kernel)
    have h9 := Option.some.inj h
    subst h9
    exact f_q4
  · rw [if_neg hc] at h
    obtain ⟨hi, h⟩ := jx_ite0_inv h
    obtain ⟨hi, h⟩ := jx_ite0_inv h
    have h9 := Option.some.inj h
    subst h9
    exact (jFr.la h0 (by decide))
theorem f_r_call_122 (σ0 : jx_S) (x3 : Int32) (x4 : Int32) (x5 : Int32) (x6 : Int32) (x7 : Int32) (σ : jx_S) (h0 : jFr ms_r_call fs_r_call σ0 σ) (t : jx_S) (h : p_r_call_122 x3 x4 x5 x6 x7 σ = some t) : fkV ms_r_call fs_r_call σ0 t := by
  refine jx_loop_ok (E := fun s t => jFr ms_r_call fs_r_call σ0 (s.2.2.2.2.2) → fkV ms_r_call fs_r_call σ0 t) (fun s t hs => ?_) _ _ _ h h0
  cases t with
  | inl s1 => exact fun b hb hf => hb (f_r_call_122_s σ0 (s.1) (s.2.1) (s.2.2.1) (s.2.2.2.1) (s.2.2.2.2.1) (s.2.2.2.2.2) hf _ hs)
  | inr b => exact fun hf => f_r_call_122_s σ0 (s.1) (s.2.1) (s.2.2.1) (s.2.2.2.1) (s.2.2.2.2.1) (s.2.2.2.2.2) hf _ hs
theorem f_r_call_66_s (σ0 : jx_S) (x1 : Int64) (x3 : Int32) (x4 : Int32) (x5 : Int32) (x6 : Int32) (σ : jx_S) (h0 : jFr ms_r_call fs_r_call σ0 σ) (t : ((Int64 × Int32 × Int32 × Int32 × Int32 × jx_S) ⊕ jx_S)) (h : p_r_call_66_s x1 x3 x4 x5 x6 σ = some t) : fk_r_call_66 σ0 t := by
  unfold p_r_call_66_s at h
  obtain ⟨hi, h⟩ := jx_ite0_inv h
  rcases Classical.em (((σ.1 129) (x4).toNatClampNeg) ≤ x6) with hc | hc
  · rw [if_pos hc] at h
    obtain ⟨t9_6, h9_6, h8_6⟩ := Option.map_eq_some_iff.mp h
    clear h
    subst h8_6
    have h := h9_6
    clear h9_6
    obtain ⟨q2, hq, h⟩ := Option.bind_eq_some_iff.mp h
    have f_q2 := jFr.step h0 (f_r_putGot σ x1 x5 σ jFr.rfl q2 hq) (by decide +kernel) (by decide +kernel)
    obtain ⟨q3, hq, h⟩ := Option.bind_eq_some_iff.mp h
    have f_q3 := jFr.step f_q2 (f_r_gotBy q2 x1 q2 jFr.rfl q3 hq) (by decide +kernel) (by decide +kernel)
    exact f_r_call_122 σ0 x3 x4 x5 q3.1 (0 : Int32) (jx_i q3.2 106 85 ((q3.2.1 106 85) - x3)) (jFr.i f_q3 (by decide)) _ h
  · rw [if_neg hc] at h
    obtain ⟨hi, h⟩ := jx_ite0_inv h
    have h9 := Option.some.inj h
    subst h9
    exact (jFr.la h0 (by decide))
theorem f_r_call_66 (σ0 : jx_S) (x1 : Int64) (x3 : Int32) (x4 : Int32) (x5 : Int32) (x6 : Int32) (σ : jx_S) (h0 : jFr ms_r_call fs_r_call σ0 σ) (t : jx_S) (h : p_r_call_66 x1 x3 x4 x5 x6 σ = some t) : fkV ms_r_call fs_r_call σ0 t := by
  refine jx_loop_ok (E := fun s t => jFr ms_r_call fs_r_call σ0 (s.2.2.2.2.2) → fkV ms_r_call fs_r_call σ0 t) (fun s t hs => ?_) _ _ _ h h0
  cases t with
  | inl s1 => exact fun b hb hf => hb (f_r_call_66_s σ0 (s.1) (s.2.1) (s.2.2.1) (s.2.2.2.1) (s.2.2.2.2.1) (s.2.2.2.2.2) hf _ hs)
  | inr b => exact fun hf => f_r_call_66_s σ0 (s.1) (s.2.1) (s.2.2.1) (s.2.2.2.1) (s.2.2.2.2.1) (s.2.2.2.2.2) hf _ hs
theorem f_r_call (σ0 : jx_S) (x1 : Int64) (x3 : Int32) (σ : jx_S) (h0 : jFr ms_r_call fs_r_call σ0 σ) (t : jx_S) (h : p_r_call x1 x3 σ = some t) : fkV ms_r_call fs_r_call σ0 t := by
  unfold p_r_call at h
  obtain ⟨q1, hq, h⟩ := Option.bind_eq_some_iff.mp h
  have f_q1 := jFr.step h0 (f_r_functionOf σ x1 σ jFr.rfl q1 hq) (by decide +kernel) (by decide +kernel)
  obtain ⟨hi, h⟩ := jx_ite0_inv h
  rcases Classical.em (((q1.2.1 106 62) + ((q1.2.1 129) (q1.1).toNatClampNeg)) ≤ (30000 : Int32)) with hc | hc
  · rw [if_pos hc] at h
    obtain ⟨hi, h⟩ := jx_ite0_inv h
    exact f_r_call_66 σ0 x1 x3 q1.1 (q1.2.1 106 62) (0 : Int32) (jx_i (jx_i q1.2 106 91 ((q1.2.1 106 91) + (1 : Int32))) 106 62 ((q1.2.1 106 62) + ((q1.2.1 129) (q1.1).toNatClampNeg))) (jFr.i (jFr.i f_q1 (by decide)) (by decide)) _ h
  · rw [if_neg hc] at h
    have h9 := Option.some.inj h
    subst h9
    exact (jFr.i f_q1 (by decide))
def ms_r_workName : List Nat := [150, 151, 152, 153, 154, 157, 158, 159, 160, 161, 162, 163, 164, 166, 169, 170]
def fs_r_workName : List (Nat × Nat) := [(106, 62), (106, 67), (106, 74), (106, 76), (106, 82), (106, 83), (106, 85), (106, 87), (106, 88), (106, 90), (106, 91), (106, 92), (106, 101)]
def fk_r_workName_146 (σ0 : jx_S) (t : ((Int32 × Int32 × Int32 × Int32 × Int32 × Int32 × Int32 × Int32 × jx_S) ⊕ jx_S)) : Prop := match t with
  | .inl s => jFr ms_r_workName fs_r_workName σ0 (s.2.2.2.2.2.2.2.2)
  | .inr t => fkV ms_r_workName fs_r_workName σ0 t
def fk_r_workName_168 (σ0 : jx_S) (t : ((Int32 × Int32 × Int32 × Int32 × Int32 × Int32 × Int32 × jx_S) ⊕ jx_S)) : Prop := match t with
  | .inl s => jFr ms_r_workName fs_r_workName σ0 (s.2.2.2.2.2.2.2)
  | .inr t => fkV ms_r_workName fs_r_workName σ0 t
theorem f_r_workName_334 (σ0 : jx_S) (x4 : Int32) (y0 : Int64) (σ : jx_S) (h0 : jFr ms_r_workName fs_r_workName σ0 σ) (t : jx_S) (h : p_r_workName_334 x4 y0 σ = some t) : fkV ms_r_workName fs_r_workName σ0 t := by
  unfold p_r_workName_334 at h
  obtain ⟨q1, hq, h⟩ := Option.bind_eq_some_iff.mp h
  have f_q1 := jFr.step h0 (f_r_call σ y0 x4 σ jFr.rfl q1 hq) (by decide +kernel) (by decide +kernel)
  have h9 := Option.some.inj h
  subst h9
  exact f_q1
theorem f_r_workName_238 (σ0 : jx_S) (x1 : Int32) (x2 : Int32) (x3 : Int32) (x4 : Int32) (x5 : Int32) (x6 : Int32) (x7 : Int32) (σ : jx_S) (h0 : jFr ms_r_workName fs_r_workName σ0 σ) (t : ((Int32 × Int32 × Int32 × Int32 × Int32 × Int32 × Int32 × jx_S) ⊕ jx_S)) (h : p_r_workName_238 x1 x2 x3 x4 x5 x6 x7 σ = some t) : fk_r_workName_168 σ0 t := by
  unfold p_r_workName_238 at h
  obtain ⟨q3, hq, h⟩ := Option.bind_eq_some_iff.mp h
  have f_q3 := jFr.step h0 (f_r_putOff σ x7 x3 σ jFr.rfl q3 hq) (by decide +kernel) (by decide +kernel)
  rcases Classical.em ((q3.2.1 106 87) = 0) with hc | hc
  · rw [if_pos hc] at h
    obtain ⟨hi, h⟩ := jx_ite0_inv h
    obtain ⟨hi, h⟩ := jx_ite0_inv h
    have h9 := Option.some.inj h
    subst h9
    exact (jFr.i (jFr.la f_q3 (by decide)) (by decide))
  · rw [if_neg hc] at h
    obtain ⟨t9_4, h9_4, h8_4⟩ := Option.map_eq_some_iff.mp h
    clear h
    subst h8_4
    have h := h9_4
    clear h9_4
    have h9 := Option.some.inj h
    subst h9
    exact f_q3
theorem f_r_workName_168_s (σ0 : jx_S) (x1 : Int32) (x2 : Int32) (x3 : Int32) (x4 : Int32) (x5 : Int32) (x6 : Int32) (x7 : Int32) (σ : jx_S) (h0 : jFr ms_r_workName fs_r_workName σ0 σ) (t : ((Int32 × Int32 × Int32 × Int32 × Int32 × Int32 × Int32 × jx_S) ⊕ jx_S)) (h : p_r_workName_168_s x1 x2 x3 x4 x5 x6 x7 σ = some t) : fk_r_workName_168 σ0 t := by
  unfold p_r_workName_168_s at h
  rcases Classical.em (x4 ≤ x5) with hc | hc
  · rw [if_pos hc] at h
    obtain ⟨t9_2, h9_2, h8_2⟩ := Option.map_eq_some_iff.mp h
    clear h
    subst h8_2
    have h := h9_2
    clear h9_2
    obtain ⟨hi, h⟩ := jx_ite0_inv h
    rcases Classical.em (x6 = 0) with hc | hc
    · rw [if_pos hc] at h
      obtain ⟨hi, h⟩ := jx_ite0_inv h
      obtain ⟨hi, h⟩ := jx_ite0_inv h
      exact f_r_workName_334 σ0 x4 ((σ.2 150) ((x3 + ((σ.1 117) (x2).toNatClampNeg))).toNatClampNeg) (jx_i σ 163 (x1).toNatClampNeg (1000 : Int32)) (jFr.ia h0 (by decide)) _ h
    · rw [if_neg hc] at h
      obtain ⟨hi, h⟩ := jx_ite0_inv h
      exact f_r_workName_334 σ0 x4 (v_r_tagged (4 : Int64) ((σ.1 123) (x2).toNatClampNeg) (jx_i σ 163 (x1).toNatClampNeg (1000 : Int32))) (jx_i σ 163 (x1).toNatClampNeg (1000 : Int32)) (jFr.ia h0 (by decide)) _ h
  · rw [if_neg hc] at h
    rcases Classical.em ((σ.1 106 86) = 0) with hc | hc
    · rw [if_pos hc] at h
      exact f_r_workName_238 σ0 x1 x2 x3 x4 x5 x6 x7 σ h0 _ h
    · rw [if_neg hc] at h
      rcases Classical.em (x6 = 0) with hc | hc
      · rw [if_pos hc] at h
        exact f_r_workName_238 σ0 x1 x2 x3 x4 x5 x6 x7 σ h0 _ h
      · rw [if_neg hc] at h
        obtain ⟨hi, h⟩ := jx_ite0_inv h
        obtain ⟨hi, h⟩ := jx_ite0_inv h
        rcases Classical.em (((σ.1 136) ((((8 : Int32) * ((σ.1 123) (x2).toNatClampNeg)) + x5)).toNatClampNeg) = 0) with hc | hc
        · rw [if_pos hc] at h
          exact f_r_workName_238 σ0 x1 x2 x3 x4 x5 x6 x7 σ h0 _ h
        · rw [if_neg hc] at h
          obtain ⟨t9_6, h9_6, h8_6⟩ := Option.map_eq_some_iff.mp h
          clear h
          subst h8_6
          have h := h9_6
          clear h9_6
          obtain ⟨hi, h⟩ := jx_ite0_inv h
          obtain ⟨q5, hq, h⟩ := Option.bind_eq_some_iff.mp h
          have f_q5 := jFr.step (jFr.ia (jFr.i h0 (by decide)) (by decide)) (f_r_begin (jx_i (jx_i σ 106 92 ((σ.1 106 92) + (1 : Int32))) 163 (x1).toNatClampNeg ((500 : Int32) + x5)) x7 x3 (-1 : Int32) (jx_i (jx_i σ 106 92 ((σ.1 106 92) + (1 : Int32))) 163 (x1).toNatClampNeg ((500 : Int32) + x5)) jFr.rfl q5 hq) (by decide +kernel) (by decide +kernel)
          have h9 := Option.some.inj h
          subst h9
          exact f_q5
theorem f_r_workName_168 (σ0 : jx_S) (x1 : Int32) (x2 : Int32) (x3 : Int32) (x4 : Int32) (x5 : Int32) (x6 : Int32) (x7 : Int32) (σ : jx_S) (h0 : jFr ms_r_workName fs_r_workName σ0 σ) (t : jx_S) (h : p_r_workName_168 x1 x2 x3 x4 x5 x6 x7 σ = some t) : fkV ms_r_workName fs_r_workName σ0 t := by
  refine jx_loop_ok (E := fun s t => jFr ms_r_workName fs_r_workName σ0 (s.2.2.2.2.2.2.2) → fkV ms_r_workName fs_r_workName σ0 t) (fun s t hs => ?_) _ _ _ h h0
  cases t with
  | inl s1 => exact fun b hb hf => hb (f_r_workName_168_s σ0 (s.1) (s.2.1) (s.2.2.1) (s.2.2.2.1) (s.2.2.2.2.1) (s.2.2.2.2.2.1) (s.2.2.2.2.2.2.1) (s.2.2.2.2.2.2.2) hf _ hs)
  | inr b => exact fun hf => f_r_workName_168_s σ0 (s.1) (s.2.1) (s.2.2.1) (s.2.2.2.1) (s.2.2.2.2.1) (s.2.2.2.2.2.1) (s.2.2.2.2.2.2.1) (s.2.2.2.2.2.2.2) hf _ hs
theorem f_r_workName_146_s (σ0 : jx_S) (x1 : Int32) (x2 : Int32) (x3 : Int32) (x4 : Int32) (x5 : Int32) (x6 : Int32) (x7 : Int32) (x8 : Int32) (σ : jx_S) (h0 : jFr ms_r_workName fs_r_workName σ0 σ) (t : ((Int32 × Int32 × Int32 × Int32 × Int32 × Int32 × Int32 × Int32 × jx_S) ⊕ jx_S)) (h : p_r_workName_146_s x1 x2 x3 x4 x5 x6 x7 x8 σ = some t) : fk_r_workName_146 σ0 t := by
  unfold p_r_workName_146_s at h
  rcases Classical.em (x5 ≤ x8) with hc | hc
  · rw [if_pos hc] at h
    obtain ⟨t9_7, h9_7, h8_7⟩ := Option.map_eq_some_iff.mp h
    clear h
    subst h8_7
    have h := h9_7
    clear h9_7
    exact f_r_workName_168 σ0 x1 x2 x3 x4 x5 x6 x7 σ h0 _ h
  · rw [if_neg hc] at h
    obtain ⟨hi, h⟩ := jx_ite0_inv h
    have h9 := Option.some.inj h
    subst h9
    exact h0
theorem f_r_workName_146 (σ0 : jx_S) (x1 : Int32) (x2 : Int32) (x3 : Int32) (x4 : Int32) (x5 : Int32) (x6 : Int32) (x7 : Int32) (x8 : Int32) (σ : jx_S) (h0 : jFr ms_r_workName fs_r_workName σ0 σ) (t : jx_S) (h : p_r_workName_146 x1 x2 x3 x4 x5 x6 x7 x8 σ = some t) : fkV ms_r_workName fs_r_workName σ0 t := by
  refine jx_loop_ok (E := fun s t => jFr ms_r_workName fs_r_workName σ0 (s.2.2.2.2.2.2.2.2) → fkV ms_r_workName fs_r_workName σ0 t) (fun s t hs => ?_) _ _ _ h h0
  cases t with
  | inl s1 => exact fun b hb hf => hb (f_r_workName_146_s σ0 (s.1) (s.2.1) (s.2.2.1) (s.2.2.2.1) (s.2.2.2.2.1) (s.2.2.2.2.2.1) (s.2.2.2.2.2.2.1) (s.2.2.2.2.2.2.2.1) (s.2.2.2.2.2.2.2.2) hf _ hs)
  | inr b => exact fun hf => f_r_workName_146_s σ0 (s.1) (s.2.1) (s.2.2.1) (s.2.2.2.1) (s.2.2.2.2.1) (s.2.2.2.2.2.1) (s.2.2.2.2.2.2.1) (s.2.2.2.2.2.2.2.1) (s.2.2.2.2.2.2.2.2) hf _ hs
theorem f_r_workName_135 (σ0 : jx_S) (x1 : Int32) (x2 : Int32) (x3 : Int32) (x4 : Int32) (x5 : Int32) (x6 : Int32) (σ : jx_S) (h0 : jFr ms_r_workName fs_r_workName σ0 σ) (t : jx_S) (h : p_r_workName_135 x1 x2 x3 x4 x5 x6 σ = some t) : fkV ms_r_workName fs_r_workName σ0 t := by
  unfold p_r_workName_135 at h
  obtain ⟨hi, h⟩ := jx_ite0_inv h
  exact f_r_workName_146 σ0 x1 x2 x3 x4 x5 x6 ((σ.1 114) (x2).toNatClampNeg) (0 : Int32) σ h0 _ h
theorem f_r_workName_84 (σ0 : jx_S) (x1 : Int32) (x2 : Int32) (x3 : Int32) (x4 : Int32) (x5 : Int32) (y0 : Int32) (σ : jx_S) (h0 : jFr ms_r_workName fs_r_workName σ0 σ) (t : jx_S) (h : p_r_workName_84 x1 x2 x3 x4 x5 y0 σ = some t) : fkV ms_r_workName fs_r_workName σ0 t := by
  unfold p_r_workName_84 at h
  rcases Classical.em (x5 < (500 : Int32)) with hc | hc
  · rw [if_pos hc] at h
    exact f_r_workName_135 σ0 x1 x2 x3 x4 x5 y0 σ h0 _ h
  · rw [if_neg hc] at h
    obtain ⟨hi, h⟩ := jx_ite0_inv h
    obtain ⟨hi, h⟩ := jx_ite0_inv h
    exact f_r_workName_135 σ0 x1 x2 x3 x4 ((x5 - (500 : Int32)) + (1 : Int32)) y0 (jx_i (jx_i (jx_l σ 166 ((σ.1 106 85)).toNatClampNeg (σ.2 106 90)) 106 85 ((σ.1 106 85) + (1 : Int32))) 163 (x1).toNatClampNeg ((x5 - (500 : Int32)) + (1 : Int32))) (jFr.ia (jFr.i (jFr.la h0 (by decide)) (by decide)) (by decide)) _ h
theorem f_r_workName_37 (σ0 : jx_S) (x1 : Int32) (x2 : Int32) (x3 : Int32) (σ : jx_S) (h0 : jFr ms_r_workName fs_r_workName σ0 σ) (t : jx_S) (h : p_r_workName_37 x1 x2 x3 σ = some t) : fkV ms_r_workName fs_r_workName σ0 t := by
  unfold p_r_workName_37 at h
  obtain ⟨hi, h⟩ := jx_ite0_inv h
  obtain ⟨hi, h⟩ := jx_ite0_inv h
  rcases Classical.em (¬ ((σ.1 163) (x1).toNatClampNeg) = (1000 : Int32)) with hc | hc
  · rw [if_pos hc] at h
    obtain ⟨hi, h⟩ := jx_ite0_inv h
    rcases Classical.em (0 ≤ ((σ.1 117) (x2).toNatClampNeg)) with hc | hc
    · rw [if_pos hc] at h
      exact f_r_workName_84 σ0 x1 x2 x3 ((σ.1 119) (x2).toNatClampNeg) ((σ.1 163) (x1).toNatClampNeg) (0 : Int32) σ h0 _ h
    · rw [if_neg hc] at h
      exact f_r_workName_84 σ0 x1 x2 x3 ((σ.1 119) (x2).toNatClampNeg) ((σ.1 163) (x1).toNatClampNeg) (1 : Int32) σ h0 _ h
  · rw [if_neg hc] at h
    obtain ⟨q8, hq, h⟩ := Option.bind_eq_some_iff.mp h
    have f_q8 := jFr.step h0 (f_r_finish σ (σ.2 106 90) σ jFr.rfl q8 hq) (by decide +kernel) (by decide +kernel)
    have h9 := Option.some.inj h
    subst h9
    exact f_q8
theorem f_r_workName (σ0 : jx_S) (x1 : Int32) (x2 : Int32) (x3 : Int32) (σ : jx_S) (h0 : jFr ms_r_workName fs_r_workName σ0 σ) (t : jx_S) (h : p_r_workName x1 x2 x3 σ = some t) : fkV ms_r_workName fs_r_workName σ0 t := by
  unfold p_r_workName at h
  obtain ⟨hi, h⟩ := jx_ite0_inv h
  rcases Classical.em (¬ ((σ.1 119) (x2).toNatClampNeg) = 0) with hc | hc
  · rw [if_pos hc] at h
    exact f_r_workName_37 σ0 x1 x2 x3 σ h0 _ h
  · rw [if_neg hc] at h
    obtain ⟨hi, h⟩ := jx_ite0_inv h
    rcases Classical.em (((σ.1 117) (x2).toNatClampNeg) < 0) with hc | hc
    · rw [if_pos hc] at h
      exact f_r_workName_37 σ0 x1 x2 x3 σ h0 _ h
    · rw [if_neg hc] at h
      obtain ⟨hi, h⟩ := jx_ite0_inv h
      obtain ⟨hi, h⟩ := jx_ite0_inv h
      obtain ⟨q9, hq, h⟩ := Option.bind_eq_some_iff.mp h
      have f_q9 := jFr.step h0 (f_r_workLocal σ x1 ((σ.2 150) ((x3 + ((σ.1 117) (x2).toNatClampNeg))).toNatClampNeg) σ jFr.rfl q9 hq) (by decide +kernel) (by decide +kernel)
      have h9 := Option.some.inj h
      subst h9
      exact f_q9
def ms_r_workBinary : List Nat := [153, 154, 161, 162, 163, 164, 165]
def fs_r_workBinary : List (Nat × Nat) := [(106, 82), (106, 83), (106, 87), (106, 88), (106, 90)]
theorem f_r_workBinary_225 (σ0 : jx_S) (y0 : Int32) (σ : jx_S) (h0 : jFr ms_r_workBinary fs_r_workBinary σ0 σ) (t : jx_S) (h : p_r_workBinary_225 y0 σ = some t) : fkV ms_r_workBinary fs_r_workBinary σ0 t := by
  unfold p_r_workBinary_225 at h
  obtain ⟨q1, hq, h⟩ := Option.bind_eq_some_iff.mp h
  have f_q1 := jFr.step h0 (f_r_finish σ (v_r_tagged (0 : Int64) y0 σ) σ jFr.rfl q1 hq) (by decide +kernel) (by decide +kernel)
  have h9 := Option.some.inj h
  subst h9
  exact f_q1
theorem f_r_workBinary_111 (σ0 : jx_S) (x2 : Int32) (x4 : Int32) (x5 : Int32) (σ : jx_S) (h0 : jFr ms_r_workBinary fs_r_workBinary σ0 σ) (t : jx_S) (h : p_r_workBinary_111 x2 x4 x5 σ = some t) : fkV ms_r_workBinary fs_r_workBinary σ0 t := by
  unfold p_r_workBinary_111 at h
  obtain ⟨hi, h⟩ := jx_ite0_inv h
  rcases Classical.em (¬ ((σ.1 112) (x2).toNatClampNeg) = (23 : Int32)) with hc | hc
  · rw [if_pos hc] at h
    obtain ⟨hi, h⟩ := jx_ite0_inv h
    rcases Classical.em (¬ ((σ.1 112) (x2).toNatClampNeg) = (24 : Int32)) with hc | hc
    · rw [if_pos hc] at h
      obtain ⟨hi, h⟩ := jx_ite0_inv h
      rcases Classical.em (¬ ((σ.1 112) (x2).toNatClampNeg) = (25 : Int32)) with hc | hc
      · rw [if_pos hc] at h
        obtain ⟨hi, h⟩ := jx_ite0_inv h
        rcases Classical.em (¬ ((σ.1 112) (x2).toNatClampNeg) = (26 : Int32)) with hc | hc
        · rw [if_pos hc] at h
          obtain ⟨hi, h⟩ := jx_ite0_inv h
          rcases Classical.em (¬ ((σ.1 112) (x2).toNatClampNeg) = (19 : Int32)) with hc | hc
          · rw [if_pos hc] at h
            rcases Classical.em (x5 ≤ x4) with hc | hc
            · rw [if_pos hc] at h
              exact f_r_workBinary_225 σ0 (0 : Int32) σ h0 _ h
            · rw [if_neg hc] at h
              exact f_r_workBinary_225 σ0 (1 : Int32) σ h0 _ h
          · rw [if_neg hc] at h
            rcases Classical.em (¬ x4 = x5) with hc | hc
            · rw [if_pos hc] at h
              exact f_r_workBinary_225 σ0 (0 : Int32) σ h0 _ h
            · rw [if_neg hc] at h
              exact f_r_workBinary_225 σ0 (1 : Int32) σ h0 _ h
        · rw [if_neg hc] at h
          obtain ⟨hi, h⟩ := jx_ite0_inv h
          exact f_r_workBinary_225 σ0 (x4 / x5) σ h0 _ h
      · rw [if_neg hc] at h
        exact f_r_workBinary_225 σ0 (x4 * x5) σ h0 _ h
    · rw [if_neg hc] at h
      exact f_r_workBinary_225 σ0 (x4 - x5) σ h0 _ h
  · rw [if_neg hc] at h
    exact f_r_workBinary_225 σ0 (x4 + x5) σ h0 _ h
theorem f_r_workBinary (σ0 : jx_S) (x1 : Int32) (x2 : Int32) (x3 : Int32) (σ : jx_S) (h0 : jFr ms_r_workBinary fs_r_workBinary σ0 σ) (t : jx_S) (h : p_r_workBinary x1 x2 x3 σ = some t) : fkV ms_r_workBinary fs_r_workBinary σ0 t := by
  unfold p_r_workBinary at h
  obtain ⟨hi, h⟩ := jx_ite0_inv h
  rcases Classical.em (¬ ((σ.1 163) (x1).toNatClampNeg) = 0) with hc | hc
  · rw [if_pos hc] at h
    obtain ⟨hi, h⟩ := jx_ite0_inv h
    rcases Classical.em (¬ ((σ.1 163) (x1).toNatClampNeg) = (1 : Int32)) with hc | hc
    · rw [if_pos hc] at h
      obtain ⟨hi, h⟩ := jx_ite0_inv h
      obtain ⟨hi, h⟩ := jx_ite0_inv h
      rcases Classical.em (¬ ((σ.1 112) (x2).toNatClampNeg) = (26 : Int32)) with hc | hc
      · rw [if_pos hc] at h
        exact f_r_workBinary_111 σ0 x2 (((σ.2 165) (x1).toNatClampNeg)).toInt32 ((σ.2 106 90)).toInt32 σ h0 _ h
      · rw [if_neg hc] at h
        rcases Classical.em (¬ ((σ.2 106 90)).toInt32 = 0) with hc | hc
        · rw [if_pos hc] at h
          exact f_r_workBinary_111 σ0 x2 (((σ.2 165) (x1).toNatClampNeg)).toInt32 ((σ.2 106 90)).toInt32 σ h0 _ h
        · rw [if_neg hc] at h
          have h9 := Option.some.inj h
          subst h9
          exact (jFr.i h0 (by decide))
    · rw [if_neg hc] at h
      obtain ⟨hi, h⟩ := jx_ite0_inv h
      obtain ⟨hi, h⟩ := jx_ite0_inv h
      obtain ⟨hi, h⟩ := jx_ite0_inv h
      obtain ⟨q2, hq, h⟩ := Option.bind_eq_some_iff.mp h
      have f_q2 := jFr.step (jFr.ia (jFr.la h0 (by decide)) (by decide)) (f_r_begin (jx_i (jx_l σ 165 (x1).toNatClampNeg (σ.2 106 90)) 163 (x1).toNatClampNeg (2 : Int32)) ((σ.1 115) (x2).toNatClampNeg) x3 (-1 : Int32) (jx_i (jx_l σ 165 (x1).toNatClampNeg (σ.2 106 90)) 163 (x1).toNatClampNeg (2 : Int32)) jFr.rfl q2 hq) (by decide +kernel) (by decide +kernel)
      have h9 := Option.some.inj h
      subst h9
      exact f_q2
  · rw [if_neg hc] at h
    obtain ⟨hi, h⟩ := jx_ite0_inv h
    obtain ⟨hi, h⟩ := jx_ite0_inv h
    obtain ⟨q3, hq, h⟩ := Option.bind_eq_some_iff.mp h
    have f_q3 := jFr.step (jFr.ia h0 (by decide)) (f_r_begin (jx_i σ 163 (x1).toNatClampNeg (1 : Int32)) ((σ.1 114) (x2).toNatClampNeg) x3 (-1 : Int32) (jx_i σ 163 (x1).toNatClampNeg (1 : Int32)) jFr.rfl q3 hq) (by decide +kernel) (by decide +kernel)
    have h9 := Option.some.inj h
    subst h9
    exact f_q3
def ms_r_workChoice : List Nat := [150, 153, 154, 161, 162, 163, 164]
def fs_r_workChoice : List (Nat × Nat) := [(106, 82), (106, 83), (106, 87), (106, 88), (106, 90)]
theorem f_r_workChoice_174 (σ0 : jx_S) (x3 : Int32) (y0 : Int32) (σ : jx_S) (h0 : jFr ms_r_workChoice fs_r_workChoice σ0 σ) (t : jx_S) (h : p_r_workChoice_174 x3 y0 σ = some t) : fkV ms_r_workChoice fs_r_workChoice σ0 t := by
  unfold p_r_workChoice_174 at h
  obtain ⟨q2, hq, h⟩ := Option.bind_eq_some_iff.mp h
  have f_q2 := jFr.step h0 (f_r_begin σ y0 x3 (-1 : Int32) σ jFr.rfl q2 hq) (by decide +kernel) (by decide +kernel)
  have h9 := Option.some.inj h
  subst h9
  exact f_q2
theorem f_r_workChoice_153 (σ0 : jx_S) (x2 : Int32) (x3 : Int32) (x6 : Int32) (σ : jx_S) (h0 : jFr ms_r_workChoice fs_r_workChoice σ0 σ) (t : jx_S) (h : p_r_workChoice_153 x2 x3 x6 σ = some t) : fkV ms_r_workChoice fs_r_workChoice σ0 t := by
  unfold p_r_workChoice_153 at h
  rcases Classical.em (x6 = 0) with hc | hc
  · rw [if_pos hc] at h
    obtain ⟨hi, h⟩ := jx_ite0_inv h
    exact f_r_workChoice_174 σ0 x3 ((σ.1 116) (x2).toNatClampNeg) σ h0 _ h
  · rw [if_neg hc] at h
    obtain ⟨hi, h⟩ := jx_ite0_inv h
    exact f_r_workChoice_174 σ0 x3 ((σ.1 115) (x2).toNatClampNeg) σ h0 _ h
theorem f_r_workChoice_93 (σ0 : jx_S) (x2 : Int32) (x3 : Int32) (x4 : Int64) (y0 : Int32) (σ : jx_S) (h0 : jFr ms_r_workChoice fs_r_workChoice σ0 σ) (t : jx_S) (h : p_r_workChoice_93 x2 x3 x4 y0 σ = some t) : fkV ms_r_workChoice fs_r_workChoice σ0 t := by
  unfold p_r_workChoice_93 at h
  obtain ⟨hi, h⟩ := jx_ite0_inv h
  rcases Classical.em (¬ ((σ.1 112) (x2).toNatClampNeg) = (10 : Int32)) with hc | hc
  · rw [if_pos hc] at h
    exact f_r_workChoice_153 σ0 x2 x3 y0 σ h0 _ h
  · rw [if_neg hc] at h
    rcases Classical.em (¬ y0 = 0) with hc | hc
    · rw [if_pos hc] at h
      exact f_r_workChoice_153 σ0 x2 x3 y0 σ h0 _ h
    · rw [if_neg hc] at h
      obtain ⟨hi, h⟩ := jx_ite0_inv h
      obtain ⟨hi, h⟩ := jx_ite0_inv h
      obtain ⟨hi, h⟩ := jx_ite0_inv h
      obtain ⟨hi, h⟩ := jx_ite0_inv h
      obtain ⟨hi, h⟩ := jx_ite0_inv h
      obtain ⟨hi, h⟩ := jx_ite0_inv h
      exact f_r_workChoice_153 σ0 x2 x3 y0 (jx_l (jx_l σ 150 ((x3 + ((σ.1 117) (x2).toNatClampNeg))).toNatClampNeg ((σ.2 155) ((x4).toInt32).toNatClampNeg)) 150 ((x3 + ((σ.1 118) (x2).toNatClampNeg))).toNatClampNeg ((σ.2 156) ((x4).toInt32).toNatClampNeg)) (jFr.la (jFr.la h0 (by decide)) (by decide)) _ h
theorem f_r_workChoice (σ0 : jx_S) (x1 : Int32) (x2 : Int32) (x3 : Int32) (σ : jx_S) (h0 : jFr ms_r_workChoice fs_r_workChoice σ0 σ) (t : jx_S) (h : p_r_workChoice x1 x2 x3 σ = some t) : fkV ms_r_workChoice fs_r_workChoice σ0 t := by
  unfold p_r_workChoice at h
  obtain ⟨hi, h⟩ := jx_ite0_inv h
  rcases Classical.em (¬ ((σ.1 163) (x1).toNatClampNeg) = 0) with hc | hc
  · rw [if_pos hc] at h
    obtain ⟨hi, h⟩ := jx_ite0_inv h
    rcases Classical.em (¬ ((σ.1 163) (x1).toNatClampNeg) = (1 : Int32)) with hc | hc
    · rw [if_pos hc] at h
      obtain ⟨q1, hq, h⟩ := Option.bind_eq_some_iff.mp h
      have f_q1 := jFr.step h0 (f_r_finish σ (σ.2 106 90) σ jFr.rfl q1 hq) (by decide +kernel) (by decide +kernel)
      have h9 := Option.some.inj h
      subst h9
      exact f_q1
    · rw [if_neg hc] at h
      obtain ⟨hi, h⟩ := jx_ite0_inv h
      obtain ⟨hi, h⟩ := jx_ite0_inv h
      rcases Classical.em (¬ ((σ.1 112) (x2).toNatClampNeg) = (7 : Int32)) with hc | hc
      · rw [if_pos hc] at h
        rcases Classical.em (¬ (v_r_tagOf (σ.2 106 90) (jx_i σ 163 (x1).toNatClampNeg (2 : Int32))) = (1 : Int32)) with hc | hc
        · rw [if_pos hc] at h
          exact f_r_workChoice_93 σ0 x2 x3 (σ.2 106 90) (0 : Int32) (jx_i σ 163 (x1).toNatClampNeg (2 : Int32)) (jFr.ia h0 (by decide)) _ h
        · rw [if_neg hc] at h
          exact f_r_workChoice_93 σ0 x2 x3 (σ.2 106 90) (1 : Int32) (jx_i σ 163 (x1).toNatClampNeg (2 : Int32)) (jFr.ia h0 (by decide)) _ h
      · rw [if_neg hc] at h
        rcases Classical.em (((σ.2 106 90)).toInt32 = 0) with hc | hc
        · rw [if_pos hc] at h
          exact f_r_workChoice_93 σ0 x2 x3 (σ.2 106 90) (0 : Int32) (jx_i σ 163 (x1).toNatClampNeg (2 : Int32)) (jFr.ia h0 (by decide)) _ h
        · rw [if_neg hc] at h
          exact f_r_workChoice_93 σ0 x2 x3 (σ.2 106 90) (1 : Int32) (jx_i σ 163 (x1).toNatClampNeg (2 : Int32)) (jFr.ia h0 (by decide)) _ h
  · rw [if_neg hc] at h
    obtain ⟨hi, h⟩ := jx_ite0_inv h
    obtain ⟨hi, h⟩ := jx_ite0_inv h
    obtain ⟨q3, hq, h⟩ := Option.bind_eq_some_iff.mp h
    have f_q3 := jFr.step (jFr.ia h0 (by decide)) (f_r_begin (jx_i σ 163 (x1).toNatClampNeg (1 : Int32)) ((σ.1 114) (x2).toNatClampNeg) x3 (-1 : Int32) (jx_i σ 163 (x1).toNatClampNeg (1 : Int32)) jFr.rfl q3 hq) (by decide +kernel) (by decide +kernel)
    have h9 := Option.some.inj h
    subst h9
    exact f_q3
def ms_r_workLet : List Nat := [150, 151, 152, 153, 154, 157, 158, 159, 160, 161, 162, 163, 164, 169, 170]
def fs_r_workLet : List (Nat × Nat) := [(106, 67), (106, 74), (106, 76), (106, 82), (106, 83), (106, 87), (106, 88), (106, 90), (106, 92), (106, 101)]
theorem f_r_workLet_95 (σ0 : jx_S) (x1 : Int32) (x2 : Int32) (x3 : Int32) (y0 : Int64) (σ : jx_S) (h0 : jFr ms_r_workLet fs_r_workLet σ0 σ) (t : jx_S) (h : p_r_workLet_95 x1 x2 x3 y0 σ = some t) : fkV ms_r_workLet fs_r_workLet σ0 t := by
  unfold p_r_workLet_95 at h
  rcases Classical.em (¬ (σ.1 106 87) = 0) with hc | hc
  · rw [if_pos hc] at h
    have h9 := Option.some.inj h
    subst h9
    exact h0
  · rw [if_neg hc] at h
    obtain ⟨hi, h⟩ := jx_ite0_inv h
    obtain ⟨hi, h⟩ := jx_ite0_inv h
    obtain ⟨hi, h⟩ := jx_ite0_inv h
    obtain ⟨hi, h⟩ := jx_ite0_inv h
    obtain ⟨q3, hq, h⟩ := Option.bind_eq_some_iff.mp h
    have f_q3 := jFr.step (jFr.ia (jFr.la h0 (by decide)) (by decide)) (f_r_begin (jx_i (jx_l σ 150 ((x3 + ((σ.1 117) (x2).toNatClampNeg))).toNatClampNeg y0) 163 (x1).toNatClampNeg (2 : Int32)) ((σ.1 115) (x2).toNatClampNeg) x3 (-1 : Int32) (jx_i (jx_l σ 150 ((x3 + ((σ.1 117) (x2).toNatClampNeg))).toNatClampNeg y0) 163 (x1).toNatClampNeg (2 : Int32)) jFr.rfl q3 hq) (by decide +kernel) (by decide +kernel)
    have h9 := Option.some.inj h
    subst h9
    exact f_q3
theorem f_r_workLet_57 (σ0 : jx_S) (x1 : Int32) (x2 : Int32) (x3 : Int32) (σ : jx_S) (h0 : jFr ms_r_workLet fs_r_workLet σ0 σ) (t : jx_S) (h : p_r_workLet_57 x1 x2 x3 σ = some t) : fkV ms_r_workLet fs_r_workLet σ0 t := by
  unfold p_r_workLet_57 at h
  obtain ⟨hi, h⟩ := jx_ite0_inv h
  rcases Classical.em ((2 : Int32) ≤ ((σ.1 163) (x1).toNatClampNeg)) with hc | hc
  · rw [if_pos hc] at h
    obtain ⟨q1, hq, h⟩ := Option.bind_eq_some_iff.mp h
    have f_q1 := jFr.step h0 (f_r_finish σ (σ.2 106 90) σ jFr.rfl q1 hq) (by decide +kernel) (by decide +kernel)
    have h9 := Option.some.inj h
    subst h9
    exact f_q1
  · rw [if_neg hc] at h
    obtain ⟨hi, h⟩ := jx_ite0_inv h
    rcases Classical.em (¬ ((σ.1 163) (x1).toNatClampNeg) = (1 : Int32)) with hc | hc
    · rw [if_pos hc] at h
      obtain ⟨hi, h⟩ := jx_ite0_inv h
      obtain ⟨q2, hq, h⟩ := Option.bind_eq_some_iff.mp h
      have f_q2 := jFr.step h0 (f_r_putOff σ ((σ.1 114) (x2).toNatClampNeg) x3 σ jFr.rfl q2 hq) (by decide +kernel) (by decide +kernel)
      exact f_r_workLet_95 σ0 x1 x2 x3 q2.1 q2.2 f_q2 _ h
    · rw [if_neg hc] at h
      exact f_r_workLet_95 σ0 x1 x2 x3 (σ.2 106 90) σ h0 _ h
theorem f_r_workLet (σ0 : jx_S) (x1 : Int32) (x2 : Int32) (x3 : Int32) (σ : jx_S) (h0 : jFr ms_r_workLet fs_r_workLet σ0 σ) (t : jx_S) (h : p_r_workLet x1 x2 x3 σ = some t) : fkV ms_r_workLet fs_r_workLet σ0 t := by
  unfold p_r_workLet at h
  obtain ⟨hi, h⟩ := jx_ite0_inv h
  rcases Classical.em (¬ ((σ.1 163) (x1).toNatClampNeg) = 0) with hc | hc
  · rw [if_pos hc] at h
    exact f_r_workLet_57 σ0 x1 x2 x3 σ h0 _ h
  · rw [if_neg hc] at h
    rcases Classical.em ((σ.1 106 86) = 0) with hc | hc
    · rw [if_pos hc] at h
      exact f_r_workLet_57 σ0 x1 x2 x3 σ h0 _ h
    · rw [if_neg hc] at h
      obtain ⟨hi, h⟩ := jx_ite0_inv h
      rcases Classical.em (((σ.1 125) (x2).toNatClampNeg) = 0) with hc | hc
      · rw [if_pos hc] at h
        exact f_r_workLet_57 σ0 x1 x2 x3 σ h0 _ h
      · rw [if_neg hc] at h
        obtain ⟨hi, h⟩ := jx_ite0_inv h
        obtain ⟨hi, h⟩ := jx_ite0_inv h
        obtain ⟨q4, hq, h⟩ := Option.bind_eq_some_iff.mp h
        have f_q4 := jFr.step (jFr.ia (jFr.i h0 (by decide)) (by decide)) (f_r_begin (jx_i (jx_i σ 106 92 ((σ.1 106 92) + (1 : Int32))) 163 (x1).toNatClampNeg (1 : Int32)) ((σ.1 114) (x2).toNatClampNeg) x3 (-1 : Int32) (jx_i (jx_i σ 106 92 ((σ.1 106 92) + (1 : Int32))) 163 (x1).toNatClampNeg (1 : Int32)) jFr.rfl q4 hq) (by decide +kernel) (by decide +kernel)
        have h9 := Option.some.inj h
        subst h9
        exact f_q4
def ms_r_workCons : List Nat := [151, 152, 153, 154, 155, 156, 157, 158, 159, 160, 169, 170]
def fs_r_workCons : List (Nat × Nat) := [(106, 67), (106, 70), (106, 74), (106, 76), (106, 82), (106, 87), (106, 90), (106, 101)]
theorem f_r_workCons_72 (σ0 : jx_S) (x3 : Int32) (σ : jx_S) (h0 : jFr ms_r_workCons fs_r_workCons σ0 σ) (t : jx_S) (h : p_r_workCons_72 x3 σ = some t) : fkV ms_r_workCons fs_r_workCons σ0 t := by
  unfold p_r_workCons_72 at h
  rcases Classical.em (¬ (σ.1 106 87) = 0) with hc | hc
  · rw [if_pos hc] at h
    have h9 := Option.some.inj h
    subst h9
    exact h0
  · rw [if_neg hc] at h
    obtain ⟨q2, hq, h⟩ := Option.bind_eq_some_iff.mp h
    have f_q2 := jFr.step h0 (f_r_finish σ (v_r_tagged (2 : Int64) x3 σ) σ jFr.rfl q2 hq) (by decide +kernel) (by decide +kernel)
    have h9 := Option.some.inj h
    subst h9
    exact f_q2
theorem f_r_workCons (σ0 : jx_S) (x1 : Int32) (x2 : Int32) (σ : jx_S) (h0 : jFr ms_r_workCons fs_r_workCons σ0 σ) (t : jx_S) (h : p_r_workCons x1 x2 σ = some t) : fkV ms_r_workCons fs_r_workCons σ0 t := by
  unfold p_r_workCons at h
  rcases Classical.em (¬ (σ.1 106 70) = (3000 : Int32)) with hc | hc
  · rw [if_pos hc] at h
    obtain ⟨hi, h⟩ := jx_ite0_inv h
    obtain ⟨q1, hq, h⟩ := Option.bind_eq_some_iff.mp h
    have f_q1 := jFr.step (jFr.i h0 (by decide)) (f_r_putOff (jx_i σ 106 70 ((σ.1 106 70) + (1 : Int32))) ((σ.1 114) (x1).toNatClampNeg) x2 (jx_i σ 106 70 ((σ.1 106 70) + (1 : Int32))) jFr.rfl q1 hq) (by decide +kernel) (by decide +kernel)
    obtain ⟨hi, h⟩ := jx_ite0_inv h
    rcases Classical.em (¬ (q1.2.1 106 87) = 0) with hc | hc
    · rw [if_pos hc] at h
      exact f_r_workCons_72 σ0 (σ.1 106 70) (jx_l q1.2 155 ((σ.1 106 70)).toNatClampNeg q1.1) (jFr.la f_q1 (by decide)) _ h
    · rw [if_neg hc] at h
      obtain ⟨hi, h⟩ := jx_ite0_inv h
      obtain ⟨q3, hq, h⟩ := Option.bind_eq_some_iff.mp h
      have f_q3 := jFr.step (jFr.la f_q1 (by decide)) (f_r_putOff (jx_l q1.2 155 ((σ.1 106 70)).toNatClampNeg q1.1) ((q1.2.1 115) (x1).toNatClampNeg) x2 (jx_l q1.2 155 ((σ.1 106 70)).toNatClampNeg q1.1) jFr.rfl q3 hq) (by decide +kernel) (by decide +kernel)
      obtain ⟨hi, h⟩ := jx_ite0_inv h
      exact f_r_workCons_72 σ0 (σ.1 106 70) (jx_l q3.2 156 ((σ.1 106 70)).toNatClampNeg q3.1) (jFr.la f_q3 (by decide)) _ h
  · rw [if_neg hc] at h
    have h9 := Option.some.inj h
    subst h9
    exact (jFr.i h0 (by decide))
def ms_r_go : List Nat := [150, 151, 152, 153, 154, 155, 156, 157, 158, 159, 160, 161, 162, 163, 164, 165, 166, 169, 170]
def fs_r_go : List (Nat × Nat) := [(106, 62), (106, 67), (106, 70), (106, 74), (106, 76), (106, 82), (106, 83), (106, 85), (106, 87), (106, 88), (106, 90), (106, 91), (106, 92), (106, 101)]
def fk_r_go_0 (σ0 : jx_S) (t : ((jx_S) ⊕ jx_S)) : Prop := match t with
  | .inl s => jFr ms_r_go fs_r_go σ0 (s)
  | .inr t => fkV ms_r_go fs_r_go σ0 t
theorem f_r_go_204 (σ0 : jx_S) (σ : jx_S) (h0 : jFr ms_r_go fs_r_go σ0 σ) (t : ((jx_S) ⊕ jx_S)) (h : p_r_go_204 σ = some t) : fk_r_go_0 σ0 t := by
  unfold p_r_go_204 at h
  have h9 := Option.some.inj h
  subst h9
  exact h0
theorem f_r_go_168 (σ0 : jx_S) (x1 : Int32) (x2 : Int32) (x3 : Int32) (σ : jx_S) (h0 : jFr ms_r_go fs_r_go σ0 σ) (t : ((jx_S) ⊕ jx_S)) (h : p_r_go_168 x1 x2 x3 σ = some t) : fk_r_go_0 σ0 t := by
  unfold p_r_go_168 at h
  obtain ⟨q6, hq, h⟩ := Option.bind_eq_some_iff.mp h
  have f_q6 := jFr.step h0 (f_r_workChoice σ x1 x2 x3 σ jFr.rfl q6 hq) (by decide +kernel) (by decide +kernel)
  exact f_r_go_204 σ0 q6 f_q6 _ h
theorem f_r_go_197 (σ0 : jx_S) (x1 : Int32) (x2 : Int32) (x3 : Int32) (σ : jx_S) (h0 : jFr ms_r_go fs_r_go σ0 σ) (t : ((jx_S) ⊕ jx_S)) (h : p_r_go_197 x1 x2 x3 σ = some t) : fk_r_go_0 σ0 t := by
  unfold p_r_go_197 at h
  obtain ⟨q9, hq, h⟩ := Option.bind_eq_some_iff.mp h
  have f_q9 := jFr.step h0 (f_r_workBinary σ x1 x2 x3 σ jFr.rfl q9 hq) (by decide +kernel) (by decide +kernel)
  exact f_r_go_204 σ0 q9 f_q9 _ h
theorem f_r_go_0_s (σ0 : jx_S) (σ : jx_S) (h0 : jFr ms_r_go fs_r_go σ0 σ) (t : ((jx_S) ⊕ jx_S)) (h : p_r_go_0_s σ = some t) : fk_r_go_0 σ0 t := by
  unfold p_r_go_0_s at h
  rcases Classical.em ((σ.1 106 82) ≤ 0) with hc | hc
  · rw [if_pos hc] at h
    obtain ⟨t9_1, h9_1, h8_1⟩ := Option.map_eq_some_iff.mp h
    clear h
    subst h8_1
    have h := h9_1
    clear h9_1
    have h9 := Option.some.inj h
    subst h9
    exact h0
  · rw [if_neg hc] at h
    rcases Classical.em (¬ (σ.1 106 87) = 0) with hc | hc
    · rw [if_pos hc] at h
      obtain ⟨t9_2, h9_2, h8_2⟩ := Option.map_eq_some_iff.mp h
      clear h
      subst h8_2
      have h := h9_2
      clear h9_2
      have h9 := Option.some.inj h
      subst h9
      exact h0
    · rw [if_neg hc] at h
      obtain ⟨hi, h⟩ := jx_ite0_inv h
      obtain ⟨hi, h⟩ := jx_ite0_inv h
      obtain ⟨hi, h⟩ := jx_ite0_inv h
      rcases Classical.em (((σ.1 112) (((σ.1 161) (((σ.1 106 82) - (1 : Int32))).toNatClampNeg)).toNatClampNeg) = 1) with hc0 | hc0
      · rw [if_pos hc0] at h
        obtain ⟨q3, hq, h⟩ := Option.bind_eq_some_iff.mp h
        have f_q3 := jFr.step h0 (f_r_workName σ ((σ.1 106 82) - (1 : Int32)) ((σ.1 161) (((σ.1 106 82) - (1 : Int32))).toNatClampNeg) ((σ.1 162) (((σ.1 106 82) - (1 : Int32))).toNatClampNeg) σ jFr.rfl q3 hq) (by decide +kernel) (by decide +kernel)
        exact f_r_go_204 σ0 q3 f_q3 _ h
      · rw [if_neg hc0] at h
        rcases Classical.em (((σ.1 112) (((σ.1 161) (((σ.1 106 82) - (1 : Int32))).toNatClampNeg)).toNatClampNeg) = 2) with hc1 | hc1
        · rw [if_pos hc1] at h
          obtain ⟨hi, h⟩ := jx_ite0_inv h
          obtain ⟨hi, h⟩ := jx_ite0_inv h
          obtain ⟨q4, hq, h⟩ := Option.bind_eq_some_iff.mp h
          have f_q4 := jFr.step h0 (f_r_finish σ (v_r_tagged (0 : Int64) ((σ.1 111) (((σ.1 113) (((σ.1 161) (((σ.1 106 82) - (1 : Int32))).toNatClampNeg)).toNatClampNeg)).toNatClampNeg) σ) σ jFr.rfl q4 hq) (by decide +kernel) (by decide +kernel)
          exact f_r_go_204 σ0 q4 f_q4 _ h
        · rw [if_neg hc1] at h
          rcases Classical.em (((σ.1 112) (((σ.1 161) (((σ.1 106 82) - (1 : Int32))).toNatClampNeg)).toNatClampNeg) = 5) with hc2 | hc2
          · rw [if_pos hc2] at h
            obtain ⟨q5, hq, h⟩ := Option.bind_eq_some_iff.mp h
            have f_q5 := jFr.step h0 (f_r_workLet σ ((σ.1 106 82) - (1 : Int32)) ((σ.1 161) (((σ.1 106 82) - (1 : Int32))).toNatClampNeg) ((σ.1 162) (((σ.1 106 82) - (1 : Int32))).toNatClampNeg) σ jFr.rfl q5 hq) (by decide +kernel) (by decide +kernel)
            exact f_r_go_204 σ0 q5 f_q5 _ h
          · rw [if_neg hc2] at h
            rcases Classical.em (((σ.1 112) (((σ.1 161) (((σ.1 106 82) - (1 : Int32))).toNatClampNeg)).toNatClampNeg) = 7) with hc3 | hc3
            · rw [if_pos hc3] at h
              exact f_r_go_168 σ0 ((σ.1 106 82) - (1 : Int32)) ((σ.1 161) (((σ.1 106 82) - (1 : Int32))).toNatClampNeg) ((σ.1 162) (((σ.1 106 82) - (1 : Int32))).toNatClampNeg) σ h0 _ h
            · rw [if_neg hc3] at h
              rcases Classical.em (((σ.1 112) (((σ.1 161) (((σ.1 106 82) - (1 : Int32))).toNatClampNeg)).toNatClampNeg) = 10) with hc4 | hc4
              · rw [if_pos hc4] at h
                exact f_r_go_168 σ0 ((σ.1 106 82) - (1 : Int32)) ((σ.1 161) (((σ.1 106 82) - (1 : Int32))).toNatClampNeg) ((σ.1 162) (((σ.1 106 82) - (1 : Int32))).toNatClampNeg) σ h0 _ h
              · rw [if_neg hc4] at h
                rcases Classical.em (((σ.1 112) (((σ.1 161) (((σ.1 106 82) - (1 : Int32))).toNatClampNeg)).toNatClampNeg) = 13) with hc5 | hc5
                · rw [if_pos hc5] at h
                  obtain ⟨q7, hq, h⟩ := Option.bind_eq_some_iff.mp h
                  have f_q7 := jFr.step h0 (f_r_finish σ (v_r_tagged (1 : Int64) (0 : Int32) σ) σ jFr.rfl q7 hq) (by decide +kernel) (by decide +kernel)
                  exact f_r_go_204 σ0 q7 f_q7 _ h
                · rw [if_neg hc5] at h
                  rcases Classical.em (((σ.1 112) (((σ.1 161) (((σ.1 106 82) - (1 : Int32))).toNatClampNeg)).toNatClampNeg) = 14) with hc6 | hc6
                  · rw [if_pos hc6] at h
                    obtain ⟨q8, hq, h⟩ := Option.bind_eq_some_iff.mp h
                    have f_q8 := jFr.step h0 (f_r_workCons σ ((σ.1 161) (((σ.1 106 82) - (1 : Int32))).toNatClampNeg) ((σ.1 162) (((σ.1 106 82) - (1 : Int32))).toNatClampNeg) σ jFr.rfl q8 hq) (by decide +kernel) (by decide +kernel)
                    exact f_r_go_204 σ0 q8 f_q8 _ h
                  · rw [if_neg hc6] at h
                    rcases Classical.em (((σ.1 112) (((σ.1 161) (((σ.1 106 82) - (1 : Int32))).toNatClampNeg)).toNatClampNeg) = 15) with hc7 | hc7
                    · rw [if_pos hc7] at h
                      exact f_r_go_204 σ0 (jx_i σ 106 87 (2 : Int32)) (jFr.i h0 (by decide)) _ h
                    · rw [if_neg hc7] at h
                      exact f_r_go_197 σ0 ((σ.1 106 82) - (1 : Int32)) ((σ.1 161) (((σ.1 106 82) - (1 : Int32))).toNatClampNeg) ((σ.1 162) (((σ.1 106 82) - (1 : Int32))).toNatClampNeg) σ h0 _ h
theorem f_r_go_0 (σ0 : jx_S) (σ : jx_S) (h0 : jFr ms_r_go fs_r_go σ0 σ) (t : jx_S) (h : p_r_go_0 σ = some t) : fkV ms_r_go fs_r_go σ0 t := by
  refine jx_loop_ok (E := fun s t => jFr ms_r_go fs_r_go σ0 (s) → fkV ms_r_go fs_r_go σ0 t) (fun s t hs => ?_) _ _ _ h h0
  cases t with
  | inl s1 => exact fun b hb hf => hb (f_r_go_0_s σ0 (s) hf _ hs)
  | inr b => exact fun hf => f_r_go_0_s σ0 (s) hf _ hs
theorem f_r_go (σ0 : jx_S) (σ : jx_S) (h0 : jFr ms_r_go fs_r_go σ0 σ) (t : jx_S) (h : p_r_go σ = some t) : fkV ms_r_go fs_r_go σ0 t := by
  unfold p_r_go at h
  exact f_r_go_0 σ0 σ h0 _ h
def ms_r_worked : List Nat := [150, 151, 152, 153, 154, 155, 156, 157, 158, 159, 160, 161, 162, 163, 164, 165, 166, 169, 170]
def fs_r_worked : List (Nat × Nat) := [(106, 62), (106, 67), (106, 70), (106, 74), (106, 76), (106, 82), (106, 83), (106, 85), (106, 87), (106, 88), (106, 90), (106, 91), (106, 92), (106, 101)]
theorem f_r_worked (σ0 : jx_S) (x1 : Int64) (σ : jx_S) (h0 : jFr ms_r_worked fs_r_worked σ0 σ) (t : (Int64 × jx_S)) (h : p_r_worked x1 σ = some t) : fkJ ms_r_worked fs_r_worked σ0 t := by
  unfold p_r_worked at h
  rcases Classical.em ((v_r_tagOf x1 σ) = (3 : Int32)) with hc | hc
  · rw [if_pos hc] at h
    obtain ⟨hi, h⟩ := jx_ite0_inv h
    rcases Classical.em (((σ.1 153) ((x1).toInt32).toNatClampNeg) = (2 : Int32)) with hc | hc
    · rw [if_pos hc] at h
      obtain ⟨hi, h⟩ := jx_ite0_inv h
      have h9 := Option.some.inj h
      subst h9
      exact h0
    · rw [if_neg hc] at h
      obtain ⟨hi, h⟩ := jx_ite0_inv h
      obtain ⟨hi, h⟩ := jx_ite0_inv h
      obtain ⟨hi, h⟩ := jx_ite0_inv h
      obtain ⟨q1, hq, h⟩ := Option.bind_eq_some_iff.mp h
      have f_q1 := jFr.step (jFr.ia h0 (by decide)) (f_r_begin (jx_i σ 153 ((x1).toInt32).toNatClampNeg (1 : Int32)) ((σ.1 151) ((x1).toInt32).toNatClampNeg) ((σ.1 152) ((x1).toInt32).toNatClampNeg) (x1).toInt32 (jx_i σ 153 ((x1).toInt32).toNatClampNeg (1 : Int32)) jFr.rfl q1 hq) (by decide +kernel) (by decide +kernel)
      obtain ⟨q2, hq, h⟩ := Option.bind_eq_some_iff.mp h
      have f_q2 := jFr.step f_q1 (f_r_go q1 q1 jFr.rfl q2 hq) (by decide +kernel) (by decide +kernel)
      have h9 := Option.some.inj h
      subst h9
      exact f_q2
  · rw [if_neg hc] at h
    have h9 := Option.some.inj h
    subst h9
    exact h0
def ms_r_goAlong : List Nat := [150, 151, 152, 153, 154, 155, 156, 157, 158, 159, 160, 161, 162, 163, 164, 165, 166, 167, 169, 170]
def fs_r_goAlong : List (Nat × Nat) := [(106, 62), (106, 67), (106, 70), (106, 74), (106, 76), (106, 82), (106, 83), (106, 85), (106, 87), (106, 88), (106, 90), (106, 91), (106, 92), (106, 95), (106, 96), (106, 101)]
def fk_r_goAlong_5 (σ0 : jx_S) (t : ((Int64 × jx_S) ⊕ jx_S)) : Prop := match t with
  | .inl s => jFr ms_r_goAlong fs_r_goAlong σ0 (s.2)
  | .inr t => fkV ms_r_goAlong fs_r_goAlong σ0 t
theorem f_r_goAlong_96 (σ0 : jx_S) (x1 : Int64) (σ : jx_S) (h0 : jFr ms_r_goAlong fs_r_goAlong σ0 σ) (t : jx_S) (h : p_r_goAlong_96 x1 σ = some t) : fkV ms_r_goAlong fs_r_goAlong σ0 t := by
  unfold p_r_goAlong_96 at h
  rcases Classical.em (¬ (σ.1 106 87) = 0) with hc | hc
  · rw [if_pos hc] at h
    have h9 := Option.some.inj h
    subst h9
    exact (jFr.i h0 (by decide))
  · rw [if_neg hc] at h
    rcases Classical.em (¬ (v_r_tagOf x1 σ) = (1 : Int32)) with hc | hc
    · rw [if_pos hc] at h
      have h9 := Option.some.inj h
      subst h9
      exact (jFr.i h0 (by decide))
    · rw [if_neg hc] at h
      have h9 := Option.some.inj h
      subst h9
      exact (jFr.i h0 (by decide))
theorem f_r_goAlong_93 (σ0 : jx_S) (x1 : Int64) (σ : jx_S) (h0 : jFr ms_r_goAlong fs_r_goAlong σ0 σ) (t : ((Int64 × jx_S) ⊕ jx_S)) (h : p_r_goAlong_93 x1 σ = some t) : fk_r_goAlong_5 σ0 t := by
  unfold p_r_goAlong_93 at h
  have h9 := Option.some.inj h
  subst h9
  exact h0
theorem f_r_goAlong_5_s (σ0 : jx_S) (x1 : Int64) (σ : jx_S) (h0 : jFr ms_r_goAlong fs_r_goAlong σ0 σ) (t : ((Int64 × jx_S) ⊕ jx_S)) (h : p_r_goAlong_5_s x1 σ = some t) : fk_r_goAlong_5 σ0 t := by
  unfold p_r_goAlong_5_s at h
  rcases Classical.em (¬ (σ.1 106 87) = 0) with hc | hc
  · rw [if_pos hc] at h
    obtain ⟨t9_1, h9_1, h8_1⟩ := Option.map_eq_some_iff.mp h
    clear h
    subst h8_1
    have h := h9_1
    clear h9_1
    exact f_r_goAlong_96 σ0 x1 σ h0 _ h
  · rw [if_neg hc] at h
    rcases Classical.em (¬ (v_r_tagOf x1 σ) = (2 : Int32)) with hc | hc
    · rw [if_pos hc] at h
      obtain ⟨t9_2, h9_2, h8_2⟩ := Option.map_eq_some_iff.mp h
      clear h
      subst h8_2
      have h := h9_2
      clear h9_2
      exact f_r_goAlong_96 σ0 x1 σ h0 _ h
    · rw [if_neg hc] at h
      rcases Classical.em ((50 : Int32) ≤ (σ.1 106 95)) with hc | hc
      · rw [if_pos hc] at h
        obtain ⟨t9_3, h9_3, h8_3⟩ := Option.map_eq_some_iff.mp h
        clear h
        subst h8_3
        have h := h9_3
        clear h9_3
        exact f_r_goAlong_96 σ0 x1 σ h0 _ h
      · rw [if_neg hc] at h
        obtain ⟨hi, h⟩ := jx_ite0_inv h
        obtain ⟨q4, hq, h⟩ := Option.bind_eq_some_iff.mp h
        have f_q4 := jFr.step h0 (f_r_worked σ ((σ.2 155) ((x1).toInt32).toNatClampNeg) σ jFr.rfl q4 hq) (by decide +kernel) (by decide +kernel)
        rcases Classical.em (¬ (q4.2.1 106 87) = 0) with hc | hc
        · rw [if_pos hc] at h
          exact f_r_goAlong_93 σ0 x1 q4.2 f_q4 _ h
        · rw [if_neg hc] at h
          obtain ⟨hi, h⟩ := jx_ite0_inv h
          rcases Classical.em ((50 : Int32) ≤ ((q4.2.1 106 95) + (1 : Int32))) with hc | hc
          · rw [if_pos hc] at h
            exact f_r_goAlong_93 σ0 x1 (jx_i (jx_i q4.2 167 ((q4.2.1 106 95)).toNatClampNeg (q4.1).toInt32) 106 95 ((q4.2.1 106 95) + (1 : Int32))) (jFr.i (jFr.ia f_q4 (by decide)) (by decide)) _ h
          · rw [if_neg hc] at h
            obtain ⟨hi, h⟩ := jx_ite0_inv h
            obtain ⟨q5, hq, h⟩ := Option.bind_eq_some_iff.mp h
            have f_q5 := jFr.step (jFr.i (jFr.ia f_q4 (by decide)) (by decide)) (f_r_worked (jx_i (jx_i q4.2 167 ((q4.2.1 106 95)).toNatClampNeg (q4.1).toInt32) 106 95 ((q4.2.1 106 95) + (1 : Int32))) ((q4.2.2 156) ((x1).toInt32).toNatClampNeg) (jx_i (jx_i q4.2 167 ((q4.2.1 106 95)).toNatClampNeg (q4.1).toInt32) 106 95 ((q4.2.1 106 95) + (1 : Int32))) jFr.rfl q5 hq) (by decide +kernel) (by decide +kernel)
            exact f_r_goAlong_93 σ0 q5.1 q5.2 f_q5 _ h
theorem f_r_goAlong_5 (σ0 : jx_S) (x1 : Int64) (σ : jx_S) (h0 : jFr ms_r_goAlong fs_r_goAlong σ0 σ) (t : jx_S) (h : p_r_goAlong_5 x1 σ = some t) : fkV ms_r_goAlong fs_r_goAlong σ0 t := by
  refine jx_loop_ok (E := fun s t => jFr ms_r_goAlong fs_r_goAlong σ0 (s.2) → fkV ms_r_goAlong fs_r_goAlong σ0 t) (fun s t hs => ?_) _ _ _ h h0
  cases t with
  | inl s1 => exact fun b hb hf => hb (f_r_goAlong_5_s σ0 (s.1) (s.2) hf _ hs)
  | inr b => exact fun hf => f_r_goAlong_5_s σ0 (s.1) (s.2) hf _ hs
theorem f_r_goAlong (σ0 : jx_S) (σ : jx_S) (h0 : jFr ms_r_goAlong fs_r_goAlong σ0 σ) (t : jx_S) (h : p_r_goAlong σ = some t) : fkV ms_r_goAlong fs_r_goAlong σ0 t := by
  unfold p_r_goAlong at h
  exact f_r_goAlong_5 σ0 (σ.2 106 90) σ h0 _ h
def ms_r_argument : List Nat := [168]
def fs_r_argument : List (Nat × Nat) := [(106, 2), (106, 98)]
theorem f_r_argument_15 (σ0 : jx_S) (x1 : Int32) (y0 : Int32) (σ : jx_S) (h0 : jFr ms_r_argument fs_r_argument σ0 σ) (t : (Int32 × jx_S)) (h : p_r_argument_15 x1 y0 σ = some t) : fkI ms_r_argument fs_r_argument σ0 t := by
  unfold p_r_argument_15 at h
  rcases Classical.em (y0 ≤ 0) with hc | hc
  · rw [if_pos hc] at h
    obtain ⟨hi, h⟩ := jx_ite0_inv h
    have h9 := Option.some.inj h
    subst h9
    exact (jFr.i (jFr.ia (jFr.i h0 (by decide)) (by decide)) (by decide))
  · rw [if_neg hc] at h
    have h9 := Option.some.inj h
    subst h9
    exact (jFr.i h0 (by decide))
theorem f_r_argument (σ0 : jx_S) (x1 : Int32) (σ : jx_S) (h0 : jFr ms_r_argument fs_r_argument σ0 σ) (t : (Int32 × jx_S)) (h : p_r_argument x1 σ = some t) : fkI ms_r_argument fs_r_argument σ0 t := by
  unfold p_r_argument at h
  rcases Classical.em (¬ (σ.1 106 98) = (8 : Int32)) with hc | hc
  · rw [if_pos hc] at h
    exact f_r_argument_15 σ0 x1 (0 : Int32) σ h0 _ h
  · rw [if_neg hc] at h
    exact f_r_argument_15 σ0 x1 (1 : Int32) σ h0 _ h
def ms_r_run : List Nat := [150, 151, 152, 153, 154, 155, 156, 157, 158, 159, 160, 161, 162, 163, 164, 165, 166, 167, 169, 170]
def fs_r_run : List (Nat × Nat) := [(106, 2), (106, 62), (106, 67), (106, 70), (106, 74), (106, 76), (106, 82), (106, 83), (106, 85), (106, 86), (106, 87), (106, 88), (106, 89), (106, 90), (106, 91), (106, 92), (106, 93), (106, 95), (106, 96), (106, 98), (106, 101)]
def fk_r_run_42 (σ0 : jx_S) (t : ((Int32 × Int32 × Int32 × Int32 × Int32 × jx_S) ⊕ (Int32 × jx_S))) : Prop := match t with
  | .inl s => jFr ms_r_run fs_r_run σ0 (s.2.2.2.2.2)
  | .inr t => fkI ms_r_run fs_r_run σ0 t
def fk_r_run_138 (σ0 : jx_S) (t : ((Int32 × Int32 × jx_S) ⊕ (Int32 × jx_S))) : Prop := match t with
  | .inl s => jFr ms_r_run fs_r_run σ0 (s.2.2)
  | .inr t => fkI ms_r_run fs_r_run σ0 t
theorem f_r_run_246 (σ0 : jx_S) (σ : jx_S) (h0 : jFr ms_r_run fs_r_run σ0 σ) (t : (Int32 × jx_S)) (h : p_r_run_246 σ = some t) : fkI ms_r_run fs_r_run σ0 t := by
  unfold p_r_run_246 at h
  rcases Classical.em (¬ (σ.1 106 87) = 0) with hc | hc
  · rw [if_pos hc] at h
    have h9 := Option.some.inj h
    subst h9
    exact (jFr.i h0 (by decide))
  · rw [if_neg hc] at h
    have h9 := Option.some.inj h
    subst h9
    exact (jFr.i h0 (by decide))
theorem f_r_run_235 (σ0 : jx_S) (σ : jx_S) (h0 : jFr ms_r_run fs_r_run σ0 σ) (t : (Int32 × jx_S)) (h : p_r_run_235 σ = some t) : fkI ms_r_run fs_r_run σ0 t := by
  unfold p_r_run_235 at h
  rcases Classical.em (¬ (σ.1 106 87) = 0) with hc | hc
  · rw [if_pos hc] at h
    exact f_r_run_246 σ0 σ h0 _ h
  · rw [if_neg hc] at h
    obtain ⟨q4, hq, h⟩ := Option.bind_eq_some_iff.mp h
    have f_q4 := jFr.step h0 (f_r_goAlong σ σ jFr.rfl q4 hq) (by decide +kernel) (by decide +kernel)
    exact f_r_run_246 σ0 q4 f_q4 _ h
theorem f_r_run_138_s (σ0 : jx_S) (x1 : Int32) (x5 : Int32) (σ : jx_S) (h0 : jFr ms_r_run fs_r_run σ0 σ) (t : ((Int32 × Int32 × jx_S) ⊕ (Int32 × jx_S))) (h : p_r_run_138_s x1 x5 σ = some t) : fk_r_run_138 σ0 t := by
  unfold p_r_run_138_s at h
  rcases Classical.em ((σ.1 106 98) ≤ x5) with hc | hc
  · rw [if_pos hc] at h
    obtain ⟨t9_5, h9_5, h8_5⟩ := Option.map_eq_some_iff.mp h
    clear h
    subst h8_5
    have h := h9_5
    clear h9_5
    obtain ⟨q2, hq, h⟩ := Option.bind_eq_some_iff.mp h
    have f_q2 := jFr.step (jFr.i (jFr.i h0 (by decide)) (by decide)) (f_r_call (jx_i (jx_i σ 106 85 (σ.1 106 98)) 106 98 (0 : Int32)) (v_r_tagged (4 : Int64) x1 (jx_i (jx_i σ 106 85 (σ.1 106 98)) 106 98 (0 : Int32))) (σ.1 106 98) (jx_i (jx_i σ 106 85 (σ.1 106 98)) 106 98 (0 : Int32)) jFr.rfl q2 hq) (by decide +kernel) (by decide +kernel)
    obtain ⟨q3, hq, h⟩ := Option.bind_eq_some_iff.mp h
    have f_q3 := jFr.step f_q2 (f_r_go q2 q2 jFr.rfl q3 hq) (by decide +kernel) (by decide +kernel)
    rcases Classical.em (¬ (q3.1 106 87) = 0) with hc | hc
    · rw [if_pos hc] at h
      exact f_r_run_235 σ0 q3 f_q3 _ h
    · rw [if_neg hc] at h
      obtain ⟨hi, h⟩ := jx_ite0_inv h
      rcases Classical.em (¬ ((q3.1 128) (x1).toNatClampNeg) = 0) with hc | hc
      · rw [if_pos hc] at h
        exact f_r_run_235 σ0 q3 f_q3 _ h
      · rw [if_neg hc] at h
        exact f_r_run_246 σ0 (jx_i q3 106 93 ((q3.2 106 90)).toInt32) (jFr.i f_q3 (by decide)) _ h
  · rw [if_neg hc] at h
    obtain ⟨hi, h⟩ := jx_ite0_inv h
    obtain ⟨hi, h⟩ := jx_ite0_inv h
    have h9 := Option.some.inj h
    subst h9
    exact (jFr.la h0 (by decide))
theorem f_r_run_138 (σ0 : jx_S) (x1 : Int32) (x5 : Int32) (σ : jx_S) (h0 : jFr ms_r_run fs_r_run σ0 σ) (t : (Int32 × jx_S)) (h : p_r_run_138 x1 x5 σ = some t) : fkI ms_r_run fs_r_run σ0 t := by
  refine jx_loop_ok (E := fun s t => jFr ms_r_run fs_r_run σ0 (s.2.2) → fkI ms_r_run fs_r_run σ0 t) (fun s t hs => ?_) _ _ _ h h0
  cases t with
  | inl s1 => exact fun b hb hf => hb (f_r_run_138_s σ0 (s.1) (s.2.1) (s.2.2) hf _ hs)
  | inr b => exact fun hf => f_r_run_138_s σ0 (s.1) (s.2.1) (s.2.2) hf _ hs
theorem f_r_run_109 (σ0 : jx_S) (x1 : Int32) (x2 : Int32) (x3 : Int32) (y0 : Int32) (σ : jx_S) (h0 : jFr ms_r_run fs_r_run σ0 σ) (t : (Int32 × jx_S)) (h : p_r_run_109 x1 x2 x3 y0 σ = some t) : fkI ms_r_run fs_r_run σ0 t := by
  unfold p_r_run_109 at h
  rcases Classical.em (y0 ≤ 0) with hc | hc
  · rw [if_pos hc] at h
    obtain ⟨q1, hq, h⟩ := Option.bind_eq_some_iff.mp h
    have f_q1 := jFr.step (jFr.i h0 (by decide)) (f_r_clearRun (jx_i σ 106 2 y0) (jx_i σ 106 2 y0) jFr.rfl q1 hq) (by decide +kernel) (by decide +kernel)
    obtain ⟨hb, h⟩ := jx_ite_inv h
    exact f_r_run_138 σ0 x1 (0 : Int32) (jx_i (jx_i q1 106 89 x2) 106 86 x3) (jFr.i (jFr.i f_q1 (by decide)) (by decide)) _ h
  · rw [if_neg hc] at h
    have h9 := Option.some.inj h
    subst h9
    exact (jFr.i h0 (by decide))
theorem f_r_run_86 (σ0 : jx_S) (x1 : Int32) (x2 : Int32) (x3 : Int32) (x4 : Int32) (σ : jx_S) (h0 : jFr ms_r_run fs_r_run σ0 σ) (t : (Int32 × jx_S)) (h : p_r_run_86 x1 x2 x3 x4 σ = some t) : fkI ms_r_run fs_r_run σ0 t := by
  unfold p_r_run_86 at h
  rcases Classical.em ((v_r_noFunction x1 σ) = 0) with hc | hc
  · rw [if_pos hc] at h
    rcases Classical.em (¬ x4 = 0) with hc | hc
    · rw [if_pos hc] at h
      exact f_r_run_109 σ0 x1 x2 x3 (0 : Int32) σ h0 _ h
    · rw [if_neg hc] at h
      exact f_r_run_109 σ0 x1 x2 x3 (2 : Int32) σ h0 _ h
  · rw [if_neg hc] at h
    exact f_r_run_109 σ0 x1 x2 x3 (1 : Int32) σ h0 _ h
theorem f_r_run_78 (σ0 : jx_S) (x1 : Int32) (x2 : Int32) (x3 : Int32) (x5 : Int32) (y0 : Int32) (σ : jx_S) (h0 : jFr ms_r_run fs_r_run σ0 σ) (t : ((Int32 × Int32 × Int32 × Int32 × Int32 × jx_S) ⊕ (Int32 × jx_S))) (h : p_r_run_78 x1 x2 x3 x5 y0 σ = some t) : fk_r_run_42 σ0 t := by
  unfold p_r_run_78 at h
  have h9 := Option.some.inj h
  subst h9
  exact h0
theorem f_r_run_42_s (σ0 : jx_S) (x1 : Int32) (x2 : Int32) (x3 : Int32) (x4 : Int32) (x5 : Int32) (σ : jx_S) (h0 : jFr ms_r_run fs_r_run σ0 σ) (t : ((Int32 × Int32 × Int32 × Int32 × Int32 × jx_S) ⊕ (Int32 × jx_S))) (h : p_r_run_42_s x1 x2 x3 x4 x5 σ = some t) : fk_r_run_42 σ0 t := by
  unfold p_r_run_42_s at h
  rcases Classical.em (x4 = 0) with hc | hc
  · rw [if_pos hc] at h
    obtain ⟨t9_6, h9_6, h8_6⟩ := Option.map_eq_some_iff.mp h
    clear h
    subst h8_6
    have h := h9_6
    clear h9_6
    exact f_r_run_86 σ0 x1 x2 x3 x4 σ h0 _ h
  · rw [if_neg hc] at h
    obtain ⟨hi, h⟩ := jx_ite0_inv h
    rcases Classical.em (((σ.1 127) (x1).toNatClampNeg) ≤ x5) with hc | hc
    · rw [if_pos hc] at h
      obtain ⟨t9_7, h9_7, h8_7⟩ := Option.map_eq_some_iff.mp h
      clear h
      subst h8_7
      have h := h9_7
      clear h9_7
      exact f_r_run_86 σ0 x1 x2 x3 x4 σ h0 _ h
    · rw [if_neg hc] at h
      obtain ⟨hi, h⟩ := jx_ite0_inv h
      rcases Classical.em (¬ ((σ.1 135) ((((8 : Int32) * x1) + x5)).toNatClampNeg) = 0) with hc | hc
      · rw [if_pos hc] at h
        exact f_r_run_78 σ0 x1 x2 x3 x5 (0 : Int32) σ h0 _ h
      · rw [if_neg hc] at h
        exact f_r_run_78 σ0 x1 x2 x3 x5 (1 : Int32) σ h0 _ h
theorem f_r_run_42 (σ0 : jx_S) (x1 : Int32) (x2 : Int32) (x3 : Int32) (x4 : Int32) (x5 : Int32) (σ : jx_S) (h0 : jFr ms_r_run fs_r_run σ0 σ) (t : (Int32 × jx_S)) (h : p_r_run_42 x1 x2 x3 x4 x5 σ = some t) : fkI ms_r_run fs_r_run σ0 t := by
  refine jx_loop_ok (E := fun s t => jFr ms_r_run fs_r_run σ0 (s.2.2.2.2.2) → fkI ms_r_run fs_r_run σ0 t) (fun s t hs => ?_) _ _ _ h h0
  cases t with
  | inl s1 => exact fun b hb hf => hb (f_r_run_42_s σ0 (s.1) (s.2.1) (s.2.2.1) (s.2.2.2.1) (s.2.2.2.2.1) (s.2.2.2.2.2) hf _ hs)
  | inr b => exact fun hf => f_r_run_42_s σ0 (s.1) (s.2.1) (s.2.2.1) (s.2.2.2.1) (s.2.2.2.2.1) (s.2.2.2.2.2) hf _ hs
theorem f_r_run_37 (σ0 : jx_S) (x1 : Int32) (x2 : Int32) (x3 : Int32) (y0 : Int32) (σ : jx_S) (h0 : jFr ms_r_run fs_r_run σ0 σ) (t : (Int32 × jx_S)) (h : p_r_run_37 x1 x2 x3 y0 σ = some t) : fkI ms_r_run fs_r_run σ0 t := by
  unfold p_r_run_37 at h
  exact f_r_run_42 σ0 x1 x2 x3 y0 (0 : Int32) σ h0 _ h
theorem f_r_run_36 (σ0 : jx_S) (x1 : Int32) (x2 : Int32) (x3 : Int32) (σ : jx_S) (h0 : jFr ms_r_run fs_r_run σ0 σ) (t : (Int32 × jx_S)) (h : p_r_run_36 x1 x2 x3 σ = some t) : fkI ms_r_run fs_r_run σ0 t := by
  unfold p_r_run_36 at h
  exact f_r_run_37 σ0 x1 x2 x3 (0 : Int32) σ h0 _ h
theorem f_r_run (σ0 : jx_S) (x1 : Int32) (x2 : Int32) (x3 : Int32) (σ : jx_S) (h0 : jFr ms_r_run fs_r_run σ0 σ) (t : (Int32 × jx_S)) (h : p_r_run x1 x2 x3 σ = some t) : fkI ms_r_run fs_r_run σ0 t := by
  unfold p_r_run at h
  rcases Classical.em (¬ (v_r_noFunction x1 σ) = 0) with hc | hc
  · rw [if_pos hc] at h
    exact f_r_run_36 σ0 x1 x2 x3 σ h0 _ h
  · rw [if_neg hc] at h
    rcases Classical.em (x2 < 0) with hc | hc
    · rw [if_pos hc] at h
      exact f_r_run_36 σ0 x1 x2 x3 σ h0 _ h
    · rw [if_neg hc] at h
      rcases Classical.em ((50000 : Int32) < x2) with hc | hc
      · rw [if_pos hc] at h
        exact f_r_run_36 σ0 x1 x2 x3 σ h0 _ h
      · rw [if_neg hc] at h
        obtain ⟨hi, h⟩ := jx_ite0_inv h
        rcases Classical.em (¬ ((σ.1 127) (x1).toNatClampNeg) = (σ.1 106 98)) with hc | hc
        · rw [if_pos hc] at h
          exact f_r_run_36 σ0 x1 x2 x3 σ h0 _ h
        · rw [if_neg hc] at h
          exact f_r_run_37 σ0 x1 x2 x3 (1 : Int32) σ h0 _ h
def ms_r_told : List Nat := []
def fs_r_told : List (Nat × Nat) := [(106, 2)]
def fk_r_told_32 (σ0 : jx_S) (t : ((Int32 × Int32 × Int32 × jx_S) ⊕ (Int32 × jx_S))) : Prop := match t with
  | .inl s => jFr ms_r_told fs_r_told σ0 (s.2.2.2)
  | .inr t => fkI ms_r_told fs_r_told σ0 t
theorem f_r_told_56 (σ0 : jx_S) (x1 : Int32) (x3 : Int32) (y0 : Int32) (y1 : Int32) (σ : jx_S) (h0 : jFr ms_r_told fs_r_told σ0 σ) (t : ((Int32 × Int32 × Int32 × jx_S) ⊕ (Int32 × jx_S))) (h : p_r_told_56 x1 x3 y0 y1 σ = some t) : fk_r_told_32 σ0 t := by
  unfold p_r_told_56 at h
  have h9 := Option.some.inj h
  subst h9
  exact h0
theorem f_r_told_32_s (σ0 : jx_S) (x1 : Int32) (x2 : Int32) (x3 : Int32) (σ : jx_S) (h0 : jFr ms_r_told fs_r_told σ0 σ) (t : ((Int32 × Int32 × Int32 × jx_S) ⊕ (Int32 × jx_S))) (h : p_r_told_32_s x1 x2 x3 σ = some t) : fk_r_told_32 σ0 t := by
  unfold p_r_told_32_s at h
  rcases Classical.em ((σ.1 106 67) ≤ x3) with hc | hc
  · rw [if_pos hc] at h
    obtain ⟨t9_1, h9_1, h8_1⟩ := Option.map_eq_some_iff.mp h
    clear h
    subst h8_1
    have h := h9_1
    clear h9_1
    rcases Classical.em (x1 = 0) with hc0 | hc0
    · rw [if_pos hc0] at h
      have h9 := Option.some.inj h
      subst h9
      exact h0
    · rw [if_neg hc0] at h
      rcases Classical.em (x1 = 1) with hc1 | hc1
      · rw [if_pos hc1] at h
        have h9 := Option.some.inj h
        subst h9
        exact h0
      · rw [if_neg hc1] at h
        rcases Classical.em (x1 = 2) with hc2 | hc2
        · rw [if_pos hc2] at h
          have h9 := Option.some.inj h
          subst h9
          exact h0
        · rw [if_neg hc2] at h
          rcases Classical.em (x1 = 3) with hc3 | hc3
          · rw [if_pos hc3] at h
            have h9 := Option.some.inj h
            subst h9
            exact h0
          · rw [if_neg hc3] at h
            rcases Classical.em (x1 = 4) with hc4 | hc4
            · rw [if_pos hc4] at h
              have h9 := Option.some.inj h
              subst h9
              exact h0
            · rw [if_neg hc4] at h
              rcases Classical.em (x1 = 5) with hc5 | hc5
              · rw [if_pos hc5] at h
                have h9 := Option.some.inj h
                subst h9
                exact h0
              · rw [if_neg hc5] at h
                rcases Classical.em (x1 = 6) with hc6 | hc6
                · rw [if_pos hc6] at h
                  have h9 := Option.some.inj h
                  subst h9
                  exact h0
                · rw [if_neg hc6] at h
                  rcases Classical.em (x1 = 7) with hc7 | hc7
                  · rw [if_pos hc7] at h
                    rcases Classical.em ((σ.1 106 96) = 0) with hc | hc
                    · rw [if_pos hc] at h
                      have h9 := Option.some.inj h
                      subst h9
                      exact h0
                    · rw [if_neg hc] at h
                      have h9 := Option.some.inj h
                      subst h9
                      exact h0
                  · rw [if_neg hc7] at h
                    rcases Classical.em (x1 = 8) with hc8 | hc8
                    · rw [if_pos hc8] at h
                      have h9 := Option.some.inj h
                      subst h9
                      exact h0
                    · rw [if_neg hc8] at h
                      have h9 := Option.some.inj h
                      subst h9
                      exact h0
  · rw [if_neg hc] at h
    obtain ⟨hi, h⟩ := jx_ite0_inv h
    rcases Classical.em (¬ ((σ.1 153) (x3).toNatClampNeg) = (2 : Int32)) with hc | hc
    · rw [if_pos hc] at h
      exact f_r_told_56 σ0 x1 x3 (1 : Int32) x2 σ h0 _ h
    · rw [if_neg hc] at h
      exact f_r_told_56 σ0 x1 x3 (0 : Int32) x2 σ h0 _ h
theorem f_r_told_32 (σ0 : jx_S) (x1 : Int32) (x2 : Int32) (x3 : Int32) (σ : jx_S) (h0 : jFr ms_r_told fs_r_told σ0 σ) (t : (Int32 × jx_S)) (h : p_r_told_32 x1 x2 x3 σ = some t) : fkI ms_r_told fs_r_told σ0 t := by
  refine jx_loop_ok (E := fun s t => jFr ms_r_told fs_r_told σ0 (s.2.2.2) → fkI ms_r_told fs_r_told σ0 t) (fun s t hs => ?_) _ _ _ h h0
  cases t with
  | inl s1 => exact fun b hb hf => hb (f_r_told_32_s σ0 (s.1) (s.2.1) (s.2.2.1) (s.2.2.2) hf _ hs)
  | inr b => exact fun hf => f_r_told_32_s σ0 (s.1) (s.2.1) (s.2.2.1) (s.2.2.2) hf _ hs
theorem f_r_told_16 (σ0 : jx_S) (x1 : Int32) (y0 : Int32) (σ : jx_S) (h0 : jFr ms_r_told fs_r_told σ0 σ) (t : (Int32 × jx_S)) (h : p_r_told_16 x1 y0 σ = some t) : fkI ms_r_told fs_r_told σ0 t := by
  unfold p_r_told_16 at h
  rcases Classical.em (y0 ≤ 0) with hc | hc
  · rw [if_pos hc] at h
    exact f_r_told_32 σ0 x1 (0 : Int32) (0 : Int32) (jx_i σ 106 2 y0) (jFr.i h0 (by decide)) _ h
  · rw [if_neg hc] at h
    have h9 := Option.some.inj h
    subst h9
    exact (jFr.i h0 (by decide))
theorem f_r_told_11 (σ0 : jx_S) (x1 : Int32) (σ : jx_S) (h0 : jFr ms_r_told fs_r_told σ0 σ) (t : (Int32 × jx_S)) (h : p_r_told_11 x1 σ = some t) : fkI ms_r_told fs_r_told σ0 t := by
  unfold p_r_told_11 at h
  exact f_r_told_16 σ0 x1 (1 : Int32) σ h0 _ h
theorem f_r_told (σ0 : jx_S) (x1 : Int32) (σ : jx_S) (h0 : jFr ms_r_told fs_r_told σ0 σ) (t : (Int32 × jx_S)) (h : p_r_told x1 σ = some t) : fkI ms_r_told fs_r_told σ0 t := by
  unfold p_r_told at h
  rcases Classical.em (x1 < 0) with hc | hc
  · rw [if_pos hc] at h
    exact f_r_told_11 σ0 x1 σ h0 _ h
  · rw [if_neg hc] at h
    rcases Classical.em (x1 ≤ (9 : Int32)) with hc | hc
    · rw [if_pos hc] at h
      exact f_r_told_16 σ0 x1 (0 : Int32) σ h0 _ h
    · rw [if_neg hc] at h
      exact f_r_told_11 σ0 x1 σ h0 _ h
def ms_r_element : List Nat := []
def fs_r_element : List (Nat × Nat) := [(106, 2)]
theorem f_r_element_18 (σ0 : jx_S) (x1 : Int32) (y0 : Int32) (σ : jx_S) (h0 : jFr ms_r_element fs_r_element σ0 σ) (t : (Int32 × jx_S)) (h : p_r_element_18 x1 y0 σ = some t) : fkI ms_r_element fs_r_element σ0 t := by
  unfold p_r_element_18 at h
  rcases Classical.em (y0 ≤ 0) with hc | hc
  · rw [if_pos hc] at h
    obtain ⟨hi, h⟩ := jx_ite0_inv h
    have h9 := Option.some.inj h
    subst h9
    exact (jFr.i h0 (by decide))
  · rw [if_neg hc] at h
    have h9 := Option.some.inj h
    subst h9
    exact (jFr.i h0 (by decide))
theorem f_r_element_13 (σ0 : jx_S) (x1 : Int32) (σ : jx_S) (h0 : jFr ms_r_element fs_r_element σ0 σ) (t : (Int32 × jx_S)) (h : p_r_element_13 x1 σ = some t) : fkI ms_r_element fs_r_element σ0 t := by
  unfold p_r_element_13 at h
  exact f_r_element_18 σ0 x1 (1 : Int32) σ h0 _ h
theorem f_r_element (σ0 : jx_S) (x1 : Int32) (σ : jx_S) (h0 : jFr ms_r_element fs_r_element σ0 σ) (t : (Int32 × jx_S)) (h : p_r_element x1 σ = some t) : fkI ms_r_element fs_r_element σ0 t := by
  unfold p_r_element at h
  rcases Classical.em (x1 < 0) with hc | hc
  · rw [if_pos hc] at h
    exact f_r_element_13 σ0 x1 σ h0 _ h
  · rw [if_neg hc] at h
    rcases Classical.em (x1 < (σ.1 106 95)) with hc | hc
    · rw [if_pos hc] at h
      exact f_r_element_18 σ0 x1 (0 : Int32) σ h0 _ h
    · rw [if_neg hc] at h
      exact f_r_element_13 σ0 x1 σ h0 _ h
