def ms_cMac_runFunction : List Nat := [71, 73, 75, 77, 79, 81, 83, 85, 87, 89, 91, 93, 95, 97, 99, 101, 103, 105]
def fs_cMac_runFunction : List (Nat × Nat) := [(8, 11), (8, 12), (8, 13), (8, 14), (8, 15), (8, 16), (8, 17), (8, 18), (9, 11), (9, 12), (9, 13), (9, 14), (9, 15), (9, 16)]
def fk_cMac_runFunction_48 (σ0 : jx_S) (t : ((Int32 × Int32 × jx_S) ⊕ (Int32 × jx_S))) : Prop := match t with
  | .inl s => jFr ms_cMac_runFunction fs_cMac_runFunction σ0 (s.2.2)
  | .inr t => fkI ms_cMac_runFunction fs_cMac_runFunction σ0 t
def fk_cMac_runFunction_97 (σ0 : jx_S) (t : ((Int32 × Int32 × jx_S) ⊕ (Int32 × jx_S))) : Prop := match t with
  | .inl s => jFr ms_cMac_runFunction fs_cMac_runFunction σ0 (s.2.2)
  | .inr t => fkI ms_cMac_runFunction fs_cMac_runFunction σ0 t
theorem f_cMac_runFunction_198 (σ0 : jx_S) (σ : jx_S) (h0 : jFr ms_cMac_runFunction fs_cMac_runFunction σ0 σ) (t : (Int32 × jx_S)) (h : p_cMac_runFunction_198 σ = some t) : fkI ms_cMac_runFunction fs_cMac_runFunction σ0 t := by
  unfold p_cMac_runFunction_198 at h
  have h9 := Option.some.inj h
  subst h9
  exact (jFr.ip (jFr.ip (jFr.ip h0 (by decide)) (by decide)) (by decide))
theorem f_cMac_runFunction_192 (σ0 : jx_S) (x1 : Int32) (x5 : Int32) (σ : jx_S) (h0 : jFr ms_cMac_runFunction fs_cMac_runFunction σ0 σ) (t : ((Int32 × Int32 × jx_S) ⊕ (Int32 × jx_S))) (h : p_cMac_runFunction_192 x1 x5 σ = some t) : fk_cMac_runFunction_97 σ0 t := by
  unfold p_cMac_runFunction_192 at h
  have h9 := Option.some.inj h
  subst h9
  exact h0
theorem f_cMac_runFunction_97_s (σ0 : jx_S) (x1 : Int32) (x5 : Int32) (σ : jx_S) (h0 : jFr ms_cMac_runFunction fs_cMac_runFunction σ0 σ) (t : ((Int32 × Int32 × jx_S) ⊕ (Int32 × jx_S))) (h : p_cMac_runFunction_97_s x1 x5 σ = some t) : fk_cMac_runFunction_97 σ0 t := by
  unfold p_cMac_runFunction_97_s at h
  rcases Classical.em ((1000000 : Int32) ≤ x5) with hc | hc
  · rw [if_pos hc] at h
    obtain ⟨t9_3, h9_3, h8_3⟩ := Option.map_eq_some_iff.mp h
    clear h
    subst h8_3
    have h := h9_3
    clear h9_3
    exact f_cMac_runFunction_198 σ0 σ h0 _ h
  · rw [if_neg hc] at h
    rcases Classical.em (¬ (σ.1 8 14) = 0) with hc | hc
    · rw [if_pos hc] at h
      obtain ⟨t9_4, h9_4, h8_4⟩ := Option.map_eq_some_iff.mp h
      clear h
      subst h8_4
      have h := h9_4
      clear h9_4
      exact f_cMac_runFunction_198 σ0 σ h0 _ h
    · rw [if_neg hc] at h
      rcases Classical.em ((σ.1 8 11) ≤ 0) with hc | hc
      · rw [if_pos hc] at h
        rcases Classical.em (¬ (jI_at 40 (σ.1 45) x1) = 0) with hc | hc
        · rw [if_pos hc] at h
          obtain ⟨q5, hq, h⟩ := Option.bind_eq_some_iff.mp h
          have f_q5 := jFr.step h0 (f_cMac_goAlong σ σ jFr.rfl q5 hq) (by decide +kernel) (by decide +kernel)
          exact f_cMac_runFunction_192 σ0 x1 x5 q5 f_q5 _ h
        · rw [if_neg hc] at h
          exact f_cMac_runFunction_192 σ0 x1 x5 (jI_put 10 (jx_i σ 8 14 (1 : Int32)) 71 (5 : Int32) (v_cHea_numberOf (σ.2 8 15) (jx_i σ 8 14 (1 : Int32)))) (jFr.ip (jFr.i h0 (by decide)) (by decide)) _ h
      · rw [if_neg hc] at h
        obtain ⟨q6, hq, h⟩ := Option.bind_eq_some_iff.mp h
        have f_q6 := jFr.step h0 (f_cMac_workOn σ (jI_at 250 (σ.1 75) ((σ.1 8 11) - (1 : Int32))) (jI_at 250 (σ.1 79) ((σ.1 8 11) - (1 : Int32))) σ jFr.rfl q6 hq) (by decide +kernel) (by decide +kernel)
        exact f_cMac_runFunction_192 σ0 x1 x5 q6 f_q6 _ h
theorem f_cMac_runFunction_97 (σ0 : jx_S) (x1 : Int32) (x5 : Int32) (σ : jx_S) (h0 : jFr ms_cMac_runFunction fs_cMac_runFunction σ0 σ) (t : (Int32 × jx_S)) (h : p_cMac_runFunction_97 x1 x5 σ = some t) : fkI ms_cMac_runFunction fs_cMac_runFunction σ0 t := by
  refine jx_loop_ok (E := fun s t => jFr ms_cMac_runFunction fs_cMac_runFunction σ0 (s.2.2) → fkI ms_cMac_runFunction fs_cMac_runFunction σ0 t) (fun s t hs => ?_) _ _ _ h h0
  cases t with
  | inl s1 => exact fun b hb hf => hb (f_cMac_runFunction_97_s σ0 (s.1) (s.2.1) (s.2.2) hf _ hs)
  | inr b => exact fun hf => f_cMac_runFunction_97_s σ0 (s.1) (s.2.1) (s.2.2) hf _ hs
theorem f_cMac_runFunction_48_s (σ0 : jx_S) (x1 : Int32) (x5 : Int32) (σ : jx_S) (h0 : jFr ms_cMac_runFunction fs_cMac_runFunction σ0 σ) (t : ((Int32 × Int32 × jx_S) ⊕ (Int32 × jx_S))) (h : p_cMac_runFunction_48_s x1 x5 σ = some t) : fk_cMac_runFunction_48 σ0 t := by
  unfold p_cMac_runFunction_48_s at h
  rcases Classical.em ((jI_at 40 (σ.1 43) x1) ≤ x5) with hc | hc
  · rw [if_pos hc] at h
    obtain ⟨t9_7, h9_7, h8_7⟩ := Option.map_eq_some_iff.mp h
    clear h
    subst h8_7
    have h := h9_7
    clear h9_7
    obtain ⟨q2, hq, h⟩ := Option.bind_eq_some_iff.mp h
    have f_q2 := jFr.step h0 (f_cMac_enter σ x1 σ jFr.rfl q2 hq) (by decide +kernel) (by decide +kernel)
    exact f_cMac_runFunction_97 σ0 x1 (0 : Int32) q2 f_q2 _ h
  · rw [if_neg hc] at h
    have h9 := Option.some.inj h
    subst h9
    exact (jFr.lp h0 (by decide))
theorem f_cMac_runFunction_48 (σ0 : jx_S) (x1 : Int32) (x5 : Int32) (σ : jx_S) (h0 : jFr ms_cMac_runFunction fs_cMac_runFunction σ0 σ) (t : (Int32 × jx_S)) (h : p_cMac_runFunction_48 x1 x5 σ = some t) : fkI ms_cMac_runFunction fs_cMac_runFunction σ0 t := by
  refine jx_loop_ok (E := fun s t => jFr ms_cMac_runFunction fs_cMac_runFunction σ0 (s.2.2) → fkI ms_cMac_runFunction fs_cMac_runFunction σ0 t) (fun s t hs => ?_) _ _ _ h h0
  cases t with
  | inl s1 => exact fun b hb hf => hb (f_cMac_runFunction_48_s σ0 (s.1) (s.2.1) (s.2.2) hf _ hs)
  | inr b => exact fun hf => f_cMac_runFunction_48_s σ0 (s.1) (s.2.1) (s.2.2) hf _ hs
theorem f_cMac_runFunction (σ0 : jx_S) (x1 : Int32) (x3 : Int32) (x4 : Int32) (σ : jx_S) (h0 : jFr ms_cMac_runFunction fs_cMac_runFunction σ0 σ) (t : (Int32 × jx_S)) (h : p_cMac_runFunction x1 x3 x4 σ = some t) : fkI ms_cMac_runFunction fs_cMac_runFunction σ0 t := by
  unfold p_cMac_runFunction at h
  obtain ⟨q1, hq, h⟩ := Option.bind_eq_some_iff.mp h
  have f_q1 := jFr.step (jFr.c h0 (by decide)) (f_cHea_clear (jI_clr 10 σ 71) (jI_clr 10 σ 71) jFr.rfl q1 hq) (by decide +kernel) (by decide +kernel)
  obtain ⟨hb, h⟩ := jx_ite_inv h
  exact f_cMac_runFunction_48 σ0 x1 (0 : Int32) (jx_i (jx_i (jx_i (jx_i (jx_i (jx_i q1 8 11 (0 : Int32)) 8 12 x3) 8 13 x4) 8 14 (0 : Int32)) 8 18 (-1 : Int32)) 8 17 (0 : Int32)) (jFr.i (jFr.i (jFr.i (jFr.i (jFr.i (jFr.i f_q1 (by decide)) (by decide)) (by decide)) (by decide)) (by decide)) (by decide)) _ h
def ms_cl_run : List Nat := [71, 73, 75, 77, 79, 81, 83, 85, 87, 89, 91, 93, 95, 97, 99, 101, 103, 105]
def fs_cl_run : List (Nat × Nat) := [(0, 11), (8, 11), (8, 12), (8, 13), (8, 14), (8, 15), (8, 16), (8, 17), (8, 18), (9, 11), (9, 12), (9, 13), (9, 14), (9, 15), (9, 16)]
theorem f_cl_run (σ0 : jx_S) (x1 : Int32) (x2 : Int32) (x3 : Int32) (σ : jx_S) (h0 : jFr ms_cl_run fs_cl_run σ0 σ) (t : (Int32 × jx_S)) (h : p_cl_run x1 x2 x3 σ = some t) : fkI ms_cl_run fs_cl_run σ0 t := by
  unfold p_cl_run at h
  rcases Classical.em (¬ (v_cl_hasFunction x1 σ) = 0) with hc | hc
  · rw [if_pos hc] at h
    rcases Classical.em (x2 < 0) with hc | hc
    · rw [if_pos hc] at h
      cases h
    · rw [if_neg hc] at h
      rcases Classical.em ((50000 : Int32) < x2) with hc | hc
      · rw [if_pos hc] at h
        cases h
      · rw [if_neg hc] at h
        obtain ⟨q1, hq, h⟩ := Option.bind_eq_some_iff.mp h
        have f_q1 := jFr.step h0 (f_cFun_takesInts σ x1 (σ.1 0 11) σ jFr.rfl q1 hq) (by decide +kernel) (by decide +kernel)
        rcases Classical.em (¬ q1.1 = 0) with hc | hc
        · rw [if_pos hc] at h
          obtain ⟨q2, hq, h⟩ := Option.bind_eq_some_iff.mp h
          have f_q2 := jFr.step (jFr.i f_q1 (by decide)) (f_cMac_runFunction (jx_i q1.2 0 11 (0 : Int32)) x1 x2 x3 (jx_i q1.2 0 11 (0 : Int32)) jFr.rfl q2 hq) (by decide +kernel) (by decide +kernel)
          have h9 := Option.some.inj h
          subst h9
          exact f_q2
        · rw [if_neg hc] at h
          cases h
  · rw [if_neg hc] at h
    cases h
def ms_cl_told : List Nat := []
def fs_cl_told : List (Nat × Nat) := []
theorem f_cl_told (σ0 : jx_S) (x1 : Int32) (σ : jx_S) (h0 : jFr ms_cl_told fs_cl_told σ0 σ) (t : (Int32 × jx_S)) (h : p_cl_told x1 σ = some t) : fkI ms_cl_told fs_cl_told σ0 t := by
  unfold p_cl_told at h
  rcases Classical.em (x1 < 0) with hc | hc
  · rw [if_pos hc] at h
    cases h
  · rw [if_neg hc] at h
    rcases Classical.em (x1 < (10 : Int32)) with hc | hc
    · rw [if_pos hc] at h
      have h9 := Option.some.inj h
      subst h9
      exact h0
    · rw [if_neg hc] at h
      cases h
def ms_cl_element : List Nat := []
def fs_cl_element : List (Nat × Nat) := []
theorem f_cl_element (σ0 : jx_S) (x1 : Int32) (σ : jx_S) (h0 : jFr ms_cl_element fs_cl_element σ0 σ) (t : (Int32 × jx_S)) (h : p_cl_element x1 σ = some t) : fkI ms_cl_element fs_cl_element σ0 t := by
  unfold p_cl_element at h
  rcases Classical.em (x1 < 0) with hc | hc
  · rw [if_pos hc] at h
    cases h
  · rw [if_neg hc] at h
    rcases Classical.em (x1 < (jI_at 10 (σ.1 71) (6 : Int32))) with hc | hc
    · rw [if_pos hc] at h
      have h9 := Option.some.inj h
      subst h9
      exact h0
    · rw [if_neg hc] at h
      cases h
def ms_r_clearRun : List Nat := []
def fs_r_clearRun : List (Nat × Nat) := [(106, 62), (106, 67), (106, 70), (106, 74), (106, 76), (106, 82), (106, 83), (106, 85), (106, 87), (106, 88), (106, 91), (106, 92), (106, 93), (106, 95), (106, 96)]
theorem f_r_clearRun (σ0 : jx_S) (σ : jx_S) (h0 : jFr ms_r_clearRun fs_r_clearRun σ0 σ) (t : jx_S) (h : p_r_clearRun σ = some t) : fkV ms_r_clearRun fs_r_clearRun σ0 t := by
  unfold p_r_clearRun at h
  have h9 := Option.some.inj h
  subst h9
  exact (jFr.i (jFr.i (jFr.i (jFr.i (jFr.i (jFr.i (jFr.i (jFr.i (jFr.i (jFr.i (jFr.i (jFr.i (jFr.i (jFr.i (jFr.i h0 (by decide)) (by decide)) (by decide)) (by decide)) (by decide)) (by decide)) (by decide)) (by decide)) (by decide)) (by decide)) (by decide)) (by decide)) (by decide)) (by decide)) (by decide))
def ms_r_forget : List Nat := []
def fs_r_forget : List (Nat × Nat) := [(106, 3), (106, 4), (106, 5), (106, 38), (106, 39), (106, 62), (106, 67), (106, 70), (106, 74), (106, 76), (106, 82), (106, 83), (106, 85), (106, 87), (106, 88), (106, 91), (106, 92), (106, 93), (106, 95), (106, 96), (106, 98)]
theorem f_r_forget (σ0 : jx_S) (σ : jx_S) (h0 : jFr ms_r_forget fs_r_forget σ0 σ) (t : jx_S) (h : p_r_forget σ = some t) : fkV ms_r_forget fs_r_forget σ0 t := by
  unfold p_r_forget at h
  obtain ⟨q1, hq, h⟩ := Option.bind_eq_some_iff.mp h
  have f_q1 := jFr.step (jFr.i (jFr.i (jFr.i (jFr.i (jFr.i (jFr.i h0 (by decide)) (by decide)) (by decide)) (by decide)) (by decide)) (by decide)) (f_r_clearRun (jx_i (jx_i (jx_i (jx_i (jx_i (jx_i σ 106 3 (0 : Int32)) 106 4 (0 : Int32)) 106 5 (-1 : Int32)) 106 38 (0 : Int32)) 106 39 (0 : Int32)) 106 98 (0 : Int32)) (jx_i (jx_i (jx_i (jx_i (jx_i (jx_i σ 106 3 (0 : Int32)) 106 4 (0 : Int32)) 106 5 (-1 : Int32)) 106 38 (0 : Int32)) 106 39 (0 : Int32)) 106 98 (0 : Int32)) jFr.rfl q1 hq) (by decide +kernel) (by decide +kernel)
  have h9 := Option.some.inj h
  subst h9
  exact f_q1
def ms_r_feed : List Nat := [107]
def fs_r_feed : List (Nat × Nat) := [(106, 1), (106, 2), (106, 3), (106, 4), (106, 5), (106, 38), (106, 39), (106, 62), (106, 67), (106, 70), (106, 74), (106, 76), (106, 82), (106, 83), (106, 85), (106, 87), (106, 88), (106, 91), (106, 92), (106, 93), (106, 95), (106, 96), (106, 98)]
def fk_r_feed_44 (σ0 : jx_S) (t : ((Int32 × Int64 × Int32 × jx_S) ⊕ (Int32 × jx_S))) : Prop := match t with
  | .inl s => jFr ms_r_feed fs_r_feed σ0 (s.2.2.2)
  | .inr t => fkI ms_r_feed fs_r_feed σ0 t
theorem f_r_feed_44_s (σ0 : jx_S) (x1 : Int32) (x2 : Int64) (x4 : Int32) (σ : jx_S) (h0 : jFr ms_r_feed fs_r_feed σ0 σ) (t : ((Int32 × Int64 × Int32 × jx_S) ⊕ (Int32 × jx_S))) (h : p_r_feed_44_s x1 x2 x4 σ = some t) : fk_r_feed_44 σ0 t := by
  unfold p_r_feed_44_s at h
  rcases Classical.em (x1 ≤ x4) with hc | hc
  · rw [if_pos hc] at h
    obtain ⟨t9_2, h9_2, h8_2⟩ := Option.map_eq_some_iff.mp h
    clear h
    subst h8_2
    have h := h9_2
    clear h9_2
    obtain ⟨q1, hq, h⟩ := Option.bind_eq_some_iff.mp h
    have f_q1 := jFr.step (jFr.i h0 (by decide)) (f_r_forget (jx_i σ 106 1 ((σ.1 106 1) + x1)) (jx_i σ 106 1 ((σ.1 106 1) + x1)) jFr.rfl q1 hq) (by decide +kernel) (by decide +kernel)
    have h9 := Option.some.inj h
    subst h9
    exact f_q1
  · rw [if_neg hc] at h
    obtain ⟨hi, h⟩ := jx_ite0_inv h
    have h9 := Option.some.inj h
    subst h9
    exact (jFr.ia h0 (by decide))
theorem f_r_feed_44 (σ0 : jx_S) (x1 : Int32) (x2 : Int64) (x4 : Int32) (σ : jx_S) (h0 : jFr ms_r_feed fs_r_feed σ0 σ) (t : (Int32 × jx_S)) (h : p_r_feed_44 x1 x2 x4 σ = some t) : fkI ms_r_feed fs_r_feed σ0 t := by
  refine jx_loop_ok (E := fun s t => jFr ms_r_feed fs_r_feed σ0 (s.2.2.2) → fkI ms_r_feed fs_r_feed σ0 t) (fun s t hs => ?_) _ _ _ h h0
  cases t with
  | inl s1 => exact fun b hb hf => hb (f_r_feed_44_s σ0 (s.1) (s.2.1) (s.2.2.1) (s.2.2.2) hf _ hs)
  | inr b => exact fun hf => f_r_feed_44_s σ0 (s.1) (s.2.1) (s.2.2.1) (s.2.2.2) hf _ hs
theorem f_r_feed_29 (σ0 : jx_S) (x1 : Int32) (x2 : Int64) (y0 : Int32) (σ : jx_S) (h0 : jFr ms_r_feed fs_r_feed σ0 σ) (t : (Int32 × jx_S)) (h : p_r_feed_29 x1 x2 y0 σ = some t) : fkI ms_r_feed fs_r_feed σ0 t := by
  unfold p_r_feed_29 at h
  rcases Classical.em (y0 ≤ 0) with hc | hc
  · rw [if_pos hc] at h
    exact f_r_feed_44 σ0 x1 x2 (0 : Int32) (jx_i σ 106 2 y0) (jFr.i h0 (by decide)) _ h
  · rw [if_neg hc] at h
    have h9 := Option.some.inj h
    subst h9
    exact (jFr.i h0 (by decide))
theorem f_r_feed_24 (σ0 : jx_S) (x1 : Int32) (x2 : Int64) (σ : jx_S) (h0 : jFr ms_r_feed fs_r_feed σ0 σ) (t : (Int32 × jx_S)) (h : p_r_feed_24 x1 x2 σ = some t) : fkI ms_r_feed fs_r_feed σ0 t := by
  unfold p_r_feed_24 at h
  exact f_r_feed_29 σ0 x1 x2 (1 : Int32) σ h0 _ h
theorem f_r_feed (σ0 : jx_S) (x1 : Int32) (x2 : Int64) (σ : jx_S) (h0 : jFr ms_r_feed fs_r_feed σ0 σ) (t : (Int32 × jx_S)) (h : p_r_feed x1 x2 σ = some t) : fkI ms_r_feed fs_r_feed σ0 t := by
  unfold p_r_feed at h
  rcases Classical.em (x1 < (1 : Int32)) with hc | hc
  · rw [if_pos hc] at h
    exact f_r_feed_24 σ0 x1 x2 σ h0 _ h
  · rw [if_neg hc] at h
    rcases Classical.em ((8 : Int32) < x1) with hc | hc
    · rw [if_pos hc] at h
      exact f_r_feed_24 σ0 x1 x2 σ h0 _ h
    · rw [if_neg hc] at h
      rcases Classical.em (((σ.1 106 1) + x1) ≤ (4000 : Int32)) with hc | hc
      · rw [if_pos hc] at h
        exact f_r_feed_29 σ0 x1 x2 (0 : Int32) σ h0 _ h
      · rw [if_neg hc] at h
        exact f_r_feed_24 σ0 x1 x2 σ h0 _ h
def ms_r_wipe : List Nat := []
def fs_r_wipe : List (Nat × Nat) := [(106, 1), (106, 2), (106, 3), (106, 4), (106, 5), (106, 38), (106, 39), (106, 62), (106, 67), (106, 70), (106, 74), (106, 76), (106, 82), (106, 83), (106, 85), (106, 87), (106, 88), (106, 91), (106, 92), (106, 93), (106, 95), (106, 96), (106, 98)]
theorem f_r_wipe (σ0 : jx_S) (σ : jx_S) (h0 : jFr ms_r_wipe fs_r_wipe σ0 σ) (t : (Int32 × jx_S)) (h : p_r_wipe σ = some t) : fkI ms_r_wipe fs_r_wipe σ0 t := by
  unfold p_r_wipe at h
  obtain ⟨q1, hq, h⟩ := Option.bind_eq_some_iff.mp h
  have f_q1 := jFr.step (jFr.i (jFr.i h0 (by decide)) (by decide)) (f_r_forget (jx_i (jx_i σ 106 2 (0 : Int32)) 106 1 (0 : Int32)) (jx_i (jx_i σ 106 2 (0 : Int32)) 106 1 (0 : Int32)) jFr.rfl q1 hq) (by decide +kernel) (by decide +kernel)
  have h9 := Option.some.inj h
  subst h9
  exact f_q1
def ms_r_fails : List Nat := []
def fs_r_fails : List (Nat × Nat) := [(106, 4), (106, 5)]
theorem f_r_fails (σ0 : jx_S) (x1 : Int32) (x2 : Int32) (σ : jx_S) (h0 : jFr ms_r_fails fs_r_fails σ0 σ) (t : (Int32 × jx_S)) (h : p_r_fails x1 x2 σ = some t) : fkI ms_r_fails fs_r_fails σ0 t := by
  unfold p_r_fails at h
  rcases Classical.em (¬ (σ.1 106 4) = 0) with hc | hc
  · rw [if_pos hc] at h
    have h9 := Option.some.inj h
    subst h9
    exact h0
  · rw [if_neg hc] at h
    have h9 := Option.some.inj h
    subst h9
    exact (jFr.i (jFr.i h0 (by decide)) (by decide))
def ms_r_octet : List Nat := []
def fs_r_octet : List (Nat × Nat) := []
theorem f_r_octet (σ0 : jx_S) (x1 : Int32) (σ : jx_S) (h0 : jFr ms_r_octet fs_r_octet σ0 σ) (t : (Int32 × jx_S)) (h : p_r_octet x1 σ = some t) : fkI ms_r_octet fs_r_octet σ0 t := by
  unfold p_r_octet at h
  rcases Classical.em ((σ.1 106 1) ≤ x1) with hc | hc
  · rw [if_pos hc] at h
    have h9 := Option.some.inj h
    subst h9
    exact h0
  · rw [if_neg hc] at h
    obtain ⟨hi, h⟩ := jx_ite0_inv h
    have h9 := Option.some.inj h
    subst h9
    exact h0
def ms_r_spells : List Nat := []
def fs_r_spells : List (Nat × Nat) := []
def fk_r_spells_38 (σ0 : jx_S) (t : ((Int32 × Int32 × Int64 × Int32 × Int32 × jx_S) ⊕ (Int32 × jx_S))) : Prop := match t with
  | .inl s => jFr ms_r_spells fs_r_spells σ0 (s.2.2.2.2.2)
  | .inr t => fkI ms_r_spells fs_r_spells σ0 t
theorem f_r_spells_77 (σ0 : jx_S) (x1 : Int32) (x2 : Int32) (x3 : Int64) (x6 : Int32) (y0 : Int32) (σ : jx_S) (h0 : jFr ms_r_spells fs_r_spells σ0 σ) (t : ((Int32 × Int32 × Int64 × Int32 × Int32 × jx_S) ⊕ (Int32 × jx_S))) (h : p_r_spells_77 x1 x2 x3 x6 y0 σ = some t) : fk_r_spells_38 σ0 t := by
  unfold p_r_spells_77 at h
  have h9 := Option.some.inj h
  subst h9
  exact h0
theorem f_r_spells_38_s (σ0 : jx_S) (x1 : Int32) (x2 : Int32) (x3 : Int64) (x5 : Int32) (x6 : Int32) (σ : jx_S) (h0 : jFr ms_r_spells fs_r_spells σ0 σ) (t : ((Int32 × Int32 × Int64 × Int32 × Int32 × jx_S) ⊕ (Int32 × jx_S))) (h : p_r_spells_38_s x1 x2 x3 x5 x6 σ = some t) : fk_r_spells_38 σ0 t := by
  unfold p_r_spells_38_s at h
  rcases Classical.em (x2 ≤ x6) with hc | hc
  · rw [if_pos hc] at h
    obtain ⟨t9_1, h9_1, h8_1⟩ := Option.map_eq_some_iff.mp h
    clear h
    subst h8_1
    have h := h9_1
    clear h9_1
    obtain ⟨hb, h⟩ := jx_ite_inv h
    have h9 := Option.some.inj h
    subst h9
    exact h0
  · rw [if_neg hc] at h
    rcases Classical.em (x5 = 0) with hc | hc
    · rw [if_pos hc] at h
      obtain ⟨t9_2, h9_2, h8_2⟩ := Option.map_eq_some_iff.mp h
      clear h
      subst h8_2
      have h := h9_2
      clear h9_2
      obtain ⟨hb, h⟩ := jx_ite_inv h
      have h9 := Option.some.inj h
      subst h9
      exact h0
    · rw [if_neg hc] at h
      obtain ⟨q3, hq, h⟩ := Option.bind_eq_some_iff.mp h
      have f_q3 := jFr.step h0 (f_r_octet σ (x1 + x6) σ jFr.rfl q3 hq) (by decide +kernel) (by decide +kernel)
      rcases Classical.em (¬ q3.1 = (((x3 >>> ((((8 : Int32) * x6)).toInt64 &&& 63)) &&& (255 : Int64))).toInt32) with hc | hc
      · rw [if_pos hc] at h
        exact f_r_spells_77 σ0 x1 x2 x3 x6 (0 : Int32) q3.2 f_q3 _ h
      · rw [if_neg hc] at h
        exact f_r_spells_77 σ0 x1 x2 x3 x6 (1 : Int32) q3.2 f_q3 _ h
theorem f_r_spells_38 (σ0 : jx_S) (x1 : Int32) (x2 : Int32) (x3 : Int64) (x5 : Int32) (x6 : Int32) (σ : jx_S) (h0 : jFr ms_r_spells fs_r_spells σ0 σ) (t : (Int32 × jx_S)) (h : p_r_spells_38 x1 x2 x3 x5 x6 σ = some t) : fkI ms_r_spells fs_r_spells σ0 t := by
  refine jx_loop_ok (E := fun s t => jFr ms_r_spells fs_r_spells σ0 (s.2.2.2.2.2) → fkI ms_r_spells fs_r_spells σ0 t) (fun s t hs => ?_) _ _ _ h h0
  cases t with
  | inl s1 => exact fun b hb hf => hb (f_r_spells_38_s σ0 (s.1) (s.2.1) (s.2.2.1) (s.2.2.2.1) (s.2.2.2.2.1) (s.2.2.2.2.2) hf _ hs)
  | inr b => exact fun hf => f_r_spells_38_s σ0 (s.1) (s.2.1) (s.2.2.1) (s.2.2.2.1) (s.2.2.2.2.1) (s.2.2.2.2.2) hf _ hs
theorem f_r_spells_33 (σ0 : jx_S) (x1 : Int32) (x2 : Int32) (x3 : Int64) (y0 : Int32) (σ : jx_S) (h0 : jFr ms_r_spells fs_r_spells σ0 σ) (t : (Int32 × jx_S)) (h : p_r_spells_33 x1 x2 x3 y0 σ = some t) : fkI ms_r_spells fs_r_spells σ0 t := by
  unfold p_r_spells_33 at h
  exact f_r_spells_38 σ0 x1 x2 x3 y0 (0 : Int32) σ h0 _ h
theorem f_r_spells_32 (σ0 : jx_S) (x1 : Int32) (x2 : Int32) (x3 : Int64) (σ : jx_S) (h0 : jFr ms_r_spells fs_r_spells σ0 σ) (t : (Int32 × jx_S)) (h : p_r_spells_32 x1 x2 x3 σ = some t) : fkI ms_r_spells fs_r_spells σ0 t := by
  unfold p_r_spells_32 at h
  exact f_r_spells_33 σ0 x1 x2 x3 (0 : Int32) σ h0 _ h
theorem f_r_spells (σ0 : jx_S) (x1 : Int32) (x2 : Int32) (x3 : Int64) (σ : jx_S) (h0 : jFr ms_r_spells fs_r_spells σ0 σ) (t : (Int32 × jx_S)) (h : p_r_spells x1 x2 x3 σ = some t) : fkI ms_r_spells fs_r_spells σ0 t := by
  unfold p_r_spells at h
  rcases Classical.em (¬ (lg_cmp (x3 >>> ((((8 : Int32) * x2)).toInt64 &&& 63)) (0 : Int64)) = 0) with hc | hc
  · rw [if_pos hc] at h
    exact f_r_spells_32 σ0 x1 x2 x3 σ h0 _ h
  · rw [if_neg hc] at h
    rcases Classical.em ((lg_cmp ((x3 >>> ((((8 : Int32) * (x2 - (1 : Int32)))).toInt64 &&& 63)) &&& (255 : Int64)) (0 : Int64)) = 0) with hc | hc
    · rw [if_pos hc] at h
      exact f_r_spells_32 σ0 x1 x2 x3 σ h0 _ h
    · rw [if_neg hc] at h
      exact f_r_spells_33 σ0 x1 x2 x3 (1 : Int32) σ h0 _ h
def ms_r_wordAt : List Nat := []
def fs_r_wordAt : List (Nat × Nat) := []
theorem f_r_wordAt (σ0 : jx_S) (x1 : Int32) (x2 : Int32) (σ : jx_S) (h0 : jFr ms_r_wordAt fs_r_wordAt σ0 σ) (t : (Int32 × jx_S)) (h : p_r_wordAt x1 x2 σ = some t) : fkI ms_r_wordAt fs_r_wordAt σ0 t := by
  unfold p_r_wordAt at h
  rcases Classical.em (x2 < (2 : Int32)) with hc | hc
  · rw [if_pos hc] at h
    have h9 := Option.some.inj h
    subst h9
    exact h0
  · rw [if_neg hc] at h
    rcases Classical.em (x2 ≤ (5 : Int32)) with hc | hc
    · rw [if_pos hc] at h
      obtain ⟨q1, hq, h⟩ := Option.bind_eq_some_iff.mp h
      have f_q1 := jFr.step h0 (f_r_spells σ x1 x2 (7630441 : Int64) σ jFr.rfl q1 hq) (by decide +kernel) (by decide +kernel)
      rcases Classical.em (q1.1 = 0) with hc | hc
      · rw [if_pos hc] at h
        obtain ⟨q2, hq, h⟩ := Option.bind_eq_some_iff.mp h
        have f_q2 := jFr.step f_q1 (f_r_spells q1.2 x1 x2 (1953720684 : Int64) q1.2 jFr.rfl q2 hq) (by decide +kernel) (by decide +kernel)
        rcases Classical.em (q2.1 = 0) with hc | hc
        · rw [if_pos hc] at h
          obtain ⟨q3, hq, h⟩ := Option.bind_eq_some_iff.mp h
          have f_q3 := jFr.step f_q2 (f_r_spells q2.2 x1 x2 (7628140 : Int64) q2.2 jFr.rfl q3 hq) (by decide +kernel) (by decide +kernel)
          rcases Classical.em (q3.1 = 0) with hc | hc
          · rw [if_pos hc] at h
            obtain ⟨q4, hq, h⟩ := Option.bind_eq_some_iff.mp h
            have f_q4 := jFr.step f_q3 (f_r_spells q3.2 x1 x2 (28265 : Int64) q3.2 jFr.rfl q4 hq) (by decide +kernel) (by decide +kernel)
            rcases Classical.em (q4.1 = 0) with hc | hc
            · rw [if_pos hc] at h
              obtain ⟨q5, hq, h⟩ := Option.bind_eq_some_iff.mp h
              have f_q5 := jFr.step f_q4 (f_r_spells q4.2 x1 x2 (26217 : Int64) q4.2 jFr.rfl q5 hq) (by decide +kernel) (by decide +kernel)
              rcases Classical.em (q5.1 = 0) with hc | hc
              · rw [if_pos hc] at h
                obtain ⟨q6, hq, h⟩ := Option.bind_eq_some_iff.mp h
                have f_q6 := jFr.step f_q5 (f_r_spells q5.2 x1 x2 (1852139636 : Int64) q5.2 jFr.rfl q6 hq) (by decide +kernel) (by decide +kernel)
                rcases Classical.em (q6.1 = 0) with hc | hc
                · rw [if_pos hc] at h
                  obtain ⟨q7, hq, h⟩ := Option.bind_eq_some_iff.mp h
                  have f_q7 := jFr.step f_q6 (f_r_spells q6.2 x1 x2 (1702063205 : Int64) q6.2 jFr.rfl q7 hq) (by decide +kernel) (by decide +kernel)
                  rcases Classical.em (q7.1 = 0) with hc | hc
                  · rw [if_pos hc] at h
                    obtain ⟨q8, hq, h⟩ := Option.bind_eq_some_iff.mp h
                    have f_q8 := jFr.step f_q7 (f_r_spells q7.2 x1 x2 (1702060387 : Int64) q7.2 jFr.rfl q8 hq) (by decide +kernel) (by decide +kernel)
                    rcases Classical.em (q8.1 = 0) with hc | hc
                    · rw [if_pos hc] at h
                      obtain ⟨q9, hq, h⟩ := Option.bind_eq_some_iff.mp h
                      have f_q9 := jFr.step f_q8 (f_r_spells q8.2 x1 x2 (26223 : Int64) q8.2 jFr.rfl q9 hq) (by decide +kernel) (by decide +kernel)
                      rcases Classical.em (q9.1 = 0) with hc | hc
                      · rw [if_pos hc] at h
                        obtain ⟨q10, hq, h⟩ := Option.bind_eq_some_iff.mp h
                        have f_q10 := jFr.step f_q9 (f_r_spells q9.2 x1 x2 (521644567909 : Int64) q9.2 jFr.rfl q10 hq) (by decide +kernel) (by decide +kernel)
                        rcases Classical.em (q10.1 = 0) with hc | hc
                        · rw [if_pos hc] at h
                          obtain ⟨q11, hq, h⟩ := Option.bind_eq_some_iff.mp h
                          have f_q11 := jFr.step f_q10 (f_r_spells q10.2 x1 x2 (7104878 : Int64) q10.2 jFr.rfl q11 hq) (by decide +kernel) (by decide +kernel)
                          rcases Classical.em (q11.1 = 0) with hc | hc
                          · rw [if_pos hc] at h
                            obtain ⟨q12, hq, h⟩ := Option.bind_eq_some_iff.mp h
                            have f_q12 := jFr.step f_q11 (f_r_spells q11.2 x1 x2 (1936617315 : Int64) q11.2 jFr.rfl q12 hq) (by decide +kernel) (by decide +kernel)
                            rcases Classical.em (q12.1 = 0) with hc | hc
                            · rw [if_pos hc] at h
                              obtain ⟨q13, hq, h⟩ := Option.bind_eq_some_iff.mp h
                              have f_q13 := jFr.step f_q12 (f_r_spells q12.2 x1 x2 (491496043109 : Int64) q12.2 jFr.rfl q13 hq) (by decide +kernel) (by decide +kernel)
                              rcases Classical.em (q13.1 = 0) with hc | hc
                              · rw [if_pos hc] at h
                                have h9 := Option.some.inj h
                                subst h9
                                exact f_q13
                              · rw [if_neg hc] at h
                                have h9 := Option.some.inj h
                                subst h9
                                exact f_q13
                            · rw [if_neg hc] at h
                              have h9 := Option.some.inj h
                              subst h9
                              exact f_q12
                          · rw [if_neg hc] at h
                            have h9 := Option.some.inj h
                            subst h9
                            exact f_q11
                        · rw [if_neg hc] at h
                          have h9 := Option.some.inj h
                          subst h9
                          exact f_q10
                      · rw [if_neg hc] at h
                        have h9 := Option.some.inj h
                        subst h9
                        exact f_q9
                    · rw [if_neg hc] at h
                      have h9 := Option.some.inj h
                      subst h9
                      exact f_q8
                  · rw [if_neg hc] at h
                    have h9 := Option.some.inj h
                    subst h9
                    exact f_q7
                · rw [if_neg hc] at h
                  have h9 := Option.some.inj h
                  subst h9
                  exact f_q6
              · rw [if_neg hc] at h
                have h9 := Option.some.inj h
                subst h9
                exact f_q5
            · rw [if_neg hc] at h
              have h9 := Option.some.inj h
              subst h9
              exact f_q4
          · rw [if_neg hc] at h
            have h9 := Option.some.inj h
            subst h9
            exact f_q3
        · rw [if_neg hc] at h
          have h9 := Option.some.inj h
          subst h9
          exact f_q2
      · rw [if_neg hc] at h
        have h9 := Option.some.inj h
        subst h9
        exact f_q1
    · rw [if_neg hc] at h
      have h9 := Option.some.inj h
      subst h9
      exact h0
def ms_r_signAt : List Nat := []
def fs_r_signAt : List (Nat × Nat) := []
theorem f_r_signAt (σ0 : jx_S) (x1 : Int32) (σ : jx_S) (h0 : jFr ms_r_signAt fs_r_signAt σ0 σ) (t : (Int32 × jx_S)) (h : p_r_signAt x1 σ = some t) : fkI ms_r_signAt fs_r_signAt σ0 t := by
  unfold p_r_signAt at h
  obtain ⟨q1, hq, h⟩ := Option.bind_eq_some_iff.mp h
  have f_q1 := jFr.step h0 (f_r_octet σ x1 σ jFr.rfl q1 hq) (by decide +kernel) (by decide +kernel)
  rcases Classical.em (q1.1 = 40) with hc0 | hc0
  · rw [if_pos hc0] at h
    have h9 := Option.some.inj h
    subst h9
    exact f_q1
  · rw [if_neg hc0] at h
    rcases Classical.em (q1.1 = 41) with hc1 | hc1
    · rw [if_pos hc1] at h
      have h9 := Option.some.inj h
      subst h9
      exact f_q1
    · rw [if_neg hc1] at h
      rcases Classical.em (q1.1 = 42) with hc2 | hc2
      · rw [if_pos hc2] at h
        have h9 := Option.some.inj h
        subst h9
        exact f_q1
      · rw [if_neg hc2] at h
        rcases Classical.em (q1.1 = 43) with hc3 | hc3
        · rw [if_pos hc3] at h
          have h9 := Option.some.inj h
          subst h9
          exact f_q1
        · rw [if_neg hc3] at h
          rcases Classical.em (q1.1 = 45) with hc4 | hc4
          · rw [if_pos hc4] at h
            obtain ⟨q2, hq, h⟩ := Option.bind_eq_some_iff.mp h
            have f_q2 := jFr.step f_q1 (f_r_octet q1.2 (x1 + (1 : Int32)) q1.2 jFr.rfl q2 hq) (by decide +kernel) (by decide +kernel)
            rcases Classical.em (¬ q2.1 = (62 : Int32)) with hc | hc
            · rw [if_pos hc] at h
              have h9 := Option.some.inj h
              subst h9
              exact f_q2
            · rw [if_neg hc] at h
              have h9 := Option.some.inj h
              subst h9
              exact f_q2
          · rw [if_neg hc4] at h
            rcases Classical.em (q1.1 = 47) with hc5 | hc5
            · rw [if_pos hc5] at h
              have h9 := Option.some.inj h
              subst h9
              exact f_q1
            · rw [if_neg hc5] at h
              rcases Classical.em (q1.1 = 58) with hc6 | hc6
              · rw [if_pos hc6] at h
                have h9 := Option.some.inj h
                subst h9
                exact f_q1
              · rw [if_neg hc6] at h
                rcases Classical.em (q1.1 = 59) with hc7 | hc7
                · rw [if_pos hc7] at h
                  have h9 := Option.some.inj h
                  subst h9
                  exact f_q1
                · rw [if_neg hc7] at h
                  rcases Classical.em (q1.1 = 60) with hc8 | hc8
                  · rw [if_pos hc8] at h
                    have h9 := Option.some.inj h
                    subst h9
                    exact f_q1
                  · rw [if_neg hc8] at h
                    rcases Classical.em (q1.1 = 61) with hc9 | hc9
                    · rw [if_pos hc9] at h
                      have h9 := Option.some.inj h
                      subst h9
                      exact f_q1
                    · rw [if_neg hc9] at h
                      rcases Classical.em (q1.1 = 124) with hc10 | hc10
                      · rw [if_pos hc10] at h
                        have h9 := Option.some.inj h
                        subst h9
                        exact f_q1
                      · rw [if_neg hc10] at h
                        have h9 := Option.some.inj h
                        subst h9
                        exact f_q1
def ms_r_scan : List Nat := [108, 109, 110, 111]
def fs_r_scan : List (Nat × Nat) := [(106, 4), (106, 5), (106, 10)]
def fk_r_scan_7 (σ0 : jx_S) (t : ((Int32 × jx_S) ⊕ (Int32 × jx_S))) : Prop := match t with
  | .inl s => jFr ms_r_scan fs_r_scan σ0 (s.2)
  | .inr t => fkI ms_r_scan fs_r_scan σ0 t
theorem f_r_scan_282 (σ0 : jx_S) (x1 : Int32) (σ : jx_S) (h0 : jFr ms_r_scan fs_r_scan σ0 σ) (t : ((Int32 × jx_S) ⊕ (Int32 × jx_S))) (h : p_r_scan_282 x1 σ = some t) : fk_r_scan_7 σ0 t := by
  unfold p_r_scan_282 at h
  have h9 := Option.some.inj h
  subst h9
  exact h0
theorem f_r_scan_33 (σ0 : jx_S) (x1 : Int32) (σ : jx_S) (h0 : jFr ms_r_scan fs_r_scan σ0 σ) (t : ((Int32 × jx_S) ⊕ (Int32 × jx_S))) (h : p_r_scan_33 x1 σ = some t) : fk_r_scan_7 σ0 t := by
  unfold p_r_scan_33 at h
  exact f_r_scan_282 σ0 (x1 + 1) σ h0 _ h
theorem f_r_scan_218 (σ0 : jx_S) (x1 : Int32) (σ : jx_S) (h0 : jFr ms_r_scan fs_r_scan σ0 σ) (t : (Int32 × jx_S)) (h : p_r_scan_218 x1 σ = some t) : fkI ms_r_scan fs_r_scan σ0 t := by
  unfold p_r_scan_218 at h
  obtain ⟨q4, hq, h⟩ := Option.bind_eq_some_iff.mp h
  have f_q4 := jFr.step h0 (f_r_fails σ (1 : Int32) x1 σ jFr.rfl q4 hq) (by decide +kernel) (by decide +kernel)
  obtain ⟨hb, h⟩ := jx_ite_inv h
  have h9 := Option.some.inj h
  subst h9
  exact f_q4
theorem f_r_scan_202 (σ0 : jx_S) (x1 : Int32) (x3 : Int32) (x4 : Int64) (x6 : Int32) (σ : jx_S) (h0 : jFr ms_r_scan fs_r_scan σ0 σ) (t : ((Int32 × jx_S) ⊕ (Int32 × jx_S))) (h : p_r_scan_202 x1 x3 x4 x6 σ = some t) : fk_r_scan_7 σ0 t := by
  unfold p_r_scan_202 at h
  rcases Classical.em (x6 = (-1 : Int32)) with hc | hc
  · rw [if_pos hc] at h
    obtain ⟨t9_5, h9_5, h8_5⟩ := Option.map_eq_some_iff.mp h
    clear h
    subst h8_5
    have h := h9_5
    clear h9_5
    exact f_r_scan_218 σ0 x1 σ h0 _ h
  · rw [if_neg hc] at h
    rcases Classical.em (¬ (σ.1 106 10) = (1200 : Int32)) with hc | hc
    · rw [if_pos hc] at h
      obtain ⟨hi, h⟩ := jx_ite0_inv h
      obtain ⟨hi, h⟩ := jx_ite0_inv h
      obtain ⟨hi, h⟩ := jx_ite0_inv h
      obtain ⟨hi, h⟩ := jx_ite0_inv h
      exact f_r_scan_282 σ0 x3 (jx_i (jx_i (jx_i (jx_i (jx_i σ 108 ((σ.1 106 10)).toNatClampNeg x6) 109 ((σ.1 106 10)).toNatClampNeg x1) 110 ((σ.1 106 10)).toNatClampNeg (x3 - x1)) 111 ((σ.1 106 10)).toNatClampNeg (x4).toInt32) 106 10 ((σ.1 106 10) + (1 : Int32))) (jFr.i (jFr.ia (jFr.ia (jFr.ia (jFr.ia h0 (by decide)) (by decide)) (by decide)) (by decide)) (by decide)) _ h
    · rw [if_neg hc] at h
      obtain ⟨t9_6, h9_6, h8_6⟩ := Option.map_eq_some_iff.mp h
      clear h
      subst h8_6
      have h := h9_6
      clear h9_6
      exact f_r_scan_218 σ0 x1 σ h0 _ h
theorem f_r_scan_200 (σ0 : jx_S) (x1 : Int32) (x4 : Int64) (x6 : Int32) (y0 : Int32) (y1 : Int32) (σ : jx_S) (h0 : jFr ms_r_scan fs_r_scan σ0 σ) (t : ((Int32 × jx_S) ⊕ (Int32 × jx_S))) (h : p_r_scan_200 x1 x4 x6 y0 y1 σ = some t) : fk_r_scan_7 σ0 t := by
  unfold p_r_scan_200 at h
  exact f_r_scan_202 σ0 x1 (y1 + y0) x4 x6 σ h0 _ h
def fk_r_scan_118 (σ0 : jx_S) (t : ((Int32 × Int32 × Int64 × jx_S) ⊕ ((Int32 × jx_S) ⊕ (Int32 × jx_S)))) : Prop := match t with
  | .inl s => jFr ms_r_scan fs_r_scan σ0 (s.2.2.2)
  | .inr t => fk_r_scan_7 σ0 t
theorem f_r_scan_182 (σ0 : jx_S) (x1 : Int32) (x3 : Int32) (x4 : Int64) (y0 : Int32) (σ : jx_S) (h0 : jFr ms_r_scan fs_r_scan σ0 σ) (t : ((Int32 × jx_S) ⊕ (Int32 × jx_S))) (h : p_r_scan_182 x1 x3 x4 y0 σ = some t) : fk_r_scan_7 σ0 t := by
  unfold p_r_scan_182 at h
  exact f_r_scan_202 σ0 x1 x3 x4 y0 σ h0 _ h
theorem f_r_scan_160 (σ0 : jx_S) (x1 : Int32) (x3 : Int32) (y0 : Int64) (σ : jx_S) (h0 : jFr ms_r_scan fs_r_scan σ0 σ) (t : ((Int32 × Int32 × Int64 × jx_S) ⊕ ((Int32 × jx_S) ⊕ (Int32 × jx_S)))) (h : p_r_scan_160 x1 x3 y0 σ = some t) : fk_r_scan_118 σ0 t := by
  unfold p_r_scan_160 at h
  have h9 := Option.some.inj h
  subst h9
  exact h0
theorem f_r_scan_118_s (σ0 : jx_S) (x1 : Int32) (x3 : Int32) (x4 : Int64) (σ : jx_S) (h0 : jFr ms_r_scan fs_r_scan σ0 σ) (t : ((Int32 × Int32 × Int64 × jx_S) ⊕ ((Int32 × jx_S) ⊕ (Int32 × jx_S)))) (h : p_r_scan_118_s x1 x3 x4 σ = some t) : fk_r_scan_118 σ0 t := by
  unfold p_r_scan_118_s at h
  obtain ⟨q7, hq, h⟩ := Option.bind_eq_some_iff.mp h
  have f_q7 := jFr.step h0 (f_r_octet σ x3 σ jFr.rfl q7 hq) (by decide +kernel) (by decide +kernel)
  rcases Classical.em ((v_r_isDigit q7.1 q7.2) = 0) with hc | hc
  · rw [if_pos hc] at h
    obtain ⟨t9_8, h9_8, h8_8⟩ := Option.map_eq_some_iff.mp h
    clear h
    subst h8_8
    have h := h9_8
    clear h9_8
    rcases Classical.em ((lg_cmp x4 (2147483647 : Int64)) ≤ 0) with hc | hc
    · rw [if_pos hc] at h
      exact f_r_scan_182 σ0 x1 x3 x4 (2 : Int32) q7.2 f_q7 _ h
    · rw [if_neg hc] at h
      exact f_r_scan_182 σ0 x1 x3 x4 (-1 : Int32) q7.2 f_q7 _ h
  · rw [if_neg hc] at h
    rcases Classical.em ((lg_cmp x4 (2147483647 : Int64)) ≤ 0) with hc | hc
    · rw [if_pos hc] at h
      obtain ⟨q9, hq, h⟩ := Option.bind_eq_some_iff.mp h
      have f_q9 := jFr.step f_q7 (f_r_octet q7.2 x3 q7.2 jFr.rfl q9 hq) (by decide +kernel) (by decide +kernel)
      exact f_r_scan_160 σ0 x1 x3 ((((10 : Int64) * x4) + (q9.1).toInt64) - (48 : Int64)) q9.2 f_q9 _ h
    · rw [if_neg hc] at h
      exact f_r_scan_160 σ0 x1 x3 x4 q7.2 f_q7 _ h
theorem f_r_scan_118 (σ0 : jx_S) (x1 : Int32) (x3 : Int32) (x4 : Int64) (σ : jx_S) (h0 : jFr ms_r_scan fs_r_scan σ0 σ) (t : ((Int32 × jx_S) ⊕ (Int32 × jx_S))) (h : p_r_scan_118 x1 x3 x4 σ = some t) : fk_r_scan_7 σ0 t := by
  refine jx_loop_ok (E := fun s t => jFr ms_r_scan fs_r_scan σ0 (s.2.2.2) → fk_r_scan_7 σ0 t) (fun s t hs => ?_) _ _ _ h h0
  cases t with
  | inl s1 => exact fun b hb hf => hb (f_r_scan_118_s σ0 (s.1) (s.2.1) (s.2.2.1) (s.2.2.2) hf _ hs)
  | inr b => exact fun hf => f_r_scan_118_s σ0 (s.1) (s.2.1) (s.2.2.1) (s.2.2.2) hf _ hs
def fk_r_scan_58 (σ0 : jx_S) (t : ((Int32 × Int32 × Int64 × jx_S) ⊕ ((Int32 × jx_S) ⊕ (Int32 × jx_S)))) : Prop := match t with
  | .inl s => jFr ms_r_scan fs_r_scan σ0 (s.2.2.2)
  | .inr t => fk_r_scan_7 σ0 t
theorem f_r_scan_80 (σ0 : jx_S) (x1 : Int32) (x3 : Int32) (x4 : Int64) (σ : jx_S) (h0 : jFr ms_r_scan fs_r_scan σ0 σ) (t : ((Int32 × Int32 × Int64 × jx_S) ⊕ ((Int32 × jx_S) ⊕ (Int32 × jx_S)))) (h : p_r_scan_80 x1 x3 x4 σ = some t) : fk_r_scan_58 σ0 t := by
  unfold p_r_scan_80 at h
  have h9 := Option.some.inj h
  subst h9
  exact h0
theorem f_r_scan_106 (σ0 : jx_S) (x1 : Int32) (x3 : Int32) (x4 : Int64) (y0 : Int32) (σ : jx_S) (h0 : jFr ms_r_scan fs_r_scan σ0 σ) (t : ((Int32 × jx_S) ⊕ (Int32 × jx_S))) (h : p_r_scan_106 x1 x3 x4 y0 σ = some t) : fk_r_scan_7 σ0 t := by
  unfold p_r_scan_106 at h
  exact f_r_scan_202 σ0 x1 x3 x4 y0 σ h0 _ h
theorem f_r_scan_58_s (σ0 : jx_S) (x1 : Int32) (x3 : Int32) (x4 : Int64) (σ : jx_S) (h0 : jFr ms_r_scan fs_r_scan σ0 σ) (t : ((Int32 × Int32 × Int64 × jx_S) ⊕ ((Int32 × jx_S) ⊕ (Int32 × jx_S)))) (h : p_r_scan_58_s x1 x3 x4 σ = some t) : fk_r_scan_58 σ0 t := by
  unfold p_r_scan_58_s at h
  obtain ⟨q10, hq, h⟩ := Option.bind_eq_some_iff.mp h
  have f_q10 := jFr.step h0 (f_r_octet σ x3 σ jFr.rfl q10 hq) (by decide +kernel) (by decide +kernel)
  rcases Classical.em (¬ (v_r_isLetter q10.1 q10.2) = 0) with hc | hc
  · rw [if_pos hc] at h
    exact f_r_scan_80 σ0 x1 x3 x4 q10.2 f_q10 _ h
  · rw [if_neg hc] at h
    obtain ⟨q11, hq, h⟩ := Option.bind_eq_some_iff.mp h
    have f_q11 := jFr.step f_q10 (f_r_octet q10.2 x3 q10.2 jFr.rfl q11 hq) (by decide +kernel) (by decide +kernel)
    rcases Classical.em ((v_r_isDigit q11.1 q11.2) = 0) with hc | hc
    · rw [if_pos hc] at h
      obtain ⟨t9_13, h9_13, h8_13⟩ := Option.map_eq_some_iff.mp h
      clear h
      subst h8_13
      have h := h9_13
      clear h9_13
      rcases Classical.em ((x3 - x1) ≤ (12 : Int32)) with hc | hc
      · rw [if_pos hc] at h
        obtain ⟨q12, hq, h⟩ := Option.bind_eq_some_iff.mp h
        have f_q12 := jFr.step f_q11 (f_r_wordAt q11.2 x1 (x3 - x1) q11.2 jFr.rfl q12 hq) (by decide +kernel) (by decide +kernel)
        exact f_r_scan_106 σ0 x1 x3 x4 q12.1 q12.2 f_q12 _ h
      · rw [if_neg hc] at h
        exact f_r_scan_106 σ0 x1 x3 x4 (-1 : Int32) q11.2 f_q11 _ h
    · rw [if_neg hc] at h
      exact f_r_scan_80 σ0 x1 x3 x4 q11.2 f_q11 _ h
theorem f_r_scan_58 (σ0 : jx_S) (x1 : Int32) (x3 : Int32) (x4 : Int64) (σ : jx_S) (h0 : jFr ms_r_scan fs_r_scan σ0 σ) (t : ((Int32 × jx_S) ⊕ (Int32 × jx_S))) (h : p_r_scan_58 x1 x3 x4 σ = some t) : fk_r_scan_7 σ0 t := by
  refine jx_loop_ok (E := fun s t => jFr ms_r_scan fs_r_scan σ0 (s.2.2.2) → fk_r_scan_7 σ0 t) (fun s t hs => ?_) _ _ _ h h0
  cases t with
  | inl s1 => exact fun b hb hf => hb (f_r_scan_58_s σ0 (s.1) (s.2.1) (s.2.2.1) (s.2.2.2) hf _ hs)
  | inr b => exact fun hf => f_r_scan_58_s σ0 (s.1) (s.2.1) (s.2.2.1) (s.2.2.2) hf _ hs
theorem f_r_scan_7_s (σ0 : jx_S) (x1 : Int32) (σ : jx_S) (h0 : jFr ms_r_scan fs_r_scan σ0 σ) (t : ((Int32 × jx_S) ⊕ (Int32 × jx_S))) (h : p_r_scan_7_s x1 σ = some t) : fk_r_scan_7 σ0 t := by
  unfold p_r_scan_7_s at h
  rcases Classical.em ((σ.1 106 1) ≤ x1) with hc | hc
  · rw [if_pos hc] at h
    obtain ⟨t9_1, h9_1, h8_1⟩ := Option.map_eq_some_iff.mp h
    clear h
    subst h8_1
    have h := h9_1
    clear h9_1
    obtain ⟨hi, h⟩ := jx_ite0_inv h
    obtain ⟨hi, h⟩ := jx_ite0_inv h
    have h9 := Option.some.inj h
    subst h9
    exact (jFr.ia (jFr.ia h0 (by decide)) (by decide))
  · rw [if_neg hc] at h
    obtain ⟨q2, hq, h⟩ := Option.bind_eq_some_iff.mp h
    have f_q2 := jFr.step h0 (f_r_octet σ x1 σ jFr.rfl q2 hq) (by decide +kernel) (by decide +kernel)
    rcases Classical.em (q2.1 = (32 : Int32)) with hc | hc
    · rw [if_pos hc] at h
      exact f_r_scan_33 σ0 x1 q2.2 f_q2 _ h
    · rw [if_neg hc] at h
      rcases Classical.em (¬ q2.1 = (10 : Int32)) with hc | hc
      · rw [if_pos hc] at h
        obtain ⟨q3, hq, h⟩ := Option.bind_eq_some_iff.mp h
        have f_q3 := jFr.step f_q2 (f_r_signAt q2.2 x1 q2.2 jFr.rfl q3 hq) (by decide +kernel) (by decide +kernel)
        rcases Classical.em ((v_r_isLetter q2.1 q3.2) = 0) with hc | hc
        · rw [if_pos hc] at h
          rcases Classical.em ((v_r_isDigit q2.1 q3.2) = 0) with hc | hc
          · rw [if_pos hc] at h
            rcases Classical.em (¬ q3.1 = (21 : Int32)) with hc | hc
            · rw [if_pos hc] at h
              exact f_r_scan_200 σ0 x1 (0 : Int64) q3.1 (1 : Int32) x1 q3.2 f_q3 _ h
            · rw [if_neg hc] at h
              exact f_r_scan_200 σ0 x1 (0 : Int64) q3.1 (2 : Int32) x1 q3.2 f_q3 _ h
          · rw [if_neg hc] at h
            exact f_r_scan_118 σ0 x1 x1 (0 : Int64) q3.2 f_q3 _ h
        · rw [if_neg hc] at h
          exact f_r_scan_58 σ0 x1 x1 (0 : Int64) q3.2 f_q3 _ h
      · rw [if_neg hc] at h
        exact f_r_scan_33 σ0 x1 q2.2 f_q2 _ h
theorem f_r_scan_7 (σ0 : jx_S) (x1 : Int32) (σ : jx_S) (h0 : jFr ms_r_scan fs_r_scan σ0 σ) (t : (Int32 × jx_S)) (h : p_r_scan_7 x1 σ = some t) : fkI ms_r_scan fs_r_scan σ0 t := by
  refine jx_loop_ok (E := fun s t => jFr ms_r_scan fs_r_scan σ0 (s.2) → fkI ms_r_scan fs_r_scan σ0 t) (fun s t hs => ?_) _ _ _ h h0
  cases t with
  | inl s1 => exact fun b hb hf => hb (f_r_scan_7_s σ0 (s.1) (s.2) hf _ hs)
  | inr b => exact fun hf => f_r_scan_7_s σ0 (s.1) (s.2) hf _ hs
theorem f_r_scan (σ0 : jx_S) (σ : jx_S) (h0 : jFr ms_r_scan fs_r_scan σ0 σ) (t : (Int32 × jx_S)) (h : p_r_scan σ = some t) : fkI ms_r_scan fs_r_scan σ0 t := by
  unfold p_r_scan at h
  exact f_r_scan_7 σ0 (0 : Int32) (jx_i σ 106 10 (0 : Int32)) (jFr.i h0 (by decide)) _ h
def ms_r_isSame : List Nat := []
def fs_r_isSame : List (Nat × Nat) := []
def fk_r_isSame_24 (σ0 : jx_S) (t : ((Int32 × Int32 × Int32 × Int32 × jx_S) ⊕ (Int32 × jx_S))) : Prop := match t with
  | .inl s => jFr ms_r_isSame fs_r_isSame σ0 (s.2.2.2.2)
  | .inr t => fkI ms_r_isSame fs_r_isSame σ0 t
theorem f_r_isSame_75 (σ0 : jx_S) (x1 : Int32) (x2 : Int32) (x4 : Int32) (y0 : Int32) (σ : jx_S) (h0 : jFr ms_r_isSame fs_r_isSame σ0 σ) (t : ((Int32 × Int32 × Int32 × Int32 × jx_S) ⊕ (Int32 × jx_S))) (h : p_r_isSame_75 x1 x2 x4 y0 σ = some t) : fk_r_isSame_24 σ0 t := by
  unfold p_r_isSame_75 at h
  have h9 := Option.some.inj h
  subst h9
  exact h0
theorem f_r_isSame_24_s (σ0 : jx_S) (x1 : Int32) (x2 : Int32) (x3 : Int32) (x4 : Int32) (σ : jx_S) (h0 : jFr ms_r_isSame fs_r_isSame σ0 σ) (t : ((Int32 × Int32 × Int32 × Int32 × jx_S) ⊕ (Int32 × jx_S))) (h : p_r_isSame_24_s x1 x2 x3 x4 σ = some t) : fk_r_isSame_24 σ0 t := by
  unfold p_r_isSame_24_s at h
  obtain ⟨hi, h⟩ := jx_ite0_inv h
  rcases Classical.em (((σ.1 110) (x1).toNatClampNeg) ≤ x4) with hc | hc
  · rw [if_pos hc] at h
    obtain ⟨t9_1, h9_1, h8_1⟩ := Option.map_eq_some_iff.mp h
    clear h
    subst h8_1
    have h := h9_1
    clear h9_1
    obtain ⟨hb, h⟩ := jx_ite_inv h
    have h9 := Option.some.inj h
    subst h9
    exact h0
  · rw [if_neg hc] at h
    rcases Classical.em (x3 = 0) with hc | hc
    · rw [if_pos hc] at h
      obtain ⟨t9_2, h9_2, h8_2⟩ := Option.map_eq_some_iff.mp h
      clear h
      subst h8_2
      have h := h9_2
      clear h9_2
      obtain ⟨hb, h⟩ := jx_ite_inv h
      have h9 := Option.some.inj h
      subst h9
      exact h0
    · rw [if_neg hc] at h
      obtain ⟨hi, h⟩ := jx_ite0_inv h
      obtain ⟨hi, h⟩ := jx_ite0_inv h
      obtain ⟨hi, h⟩ := jx_ite0_inv h
      obtain ⟨hi, h⟩ := jx_ite0_inv h
      rcases Classical.em (¬ ((σ.1 107) ((((σ.1 109) (x1).toNatClampNeg) + x4)).toNatClampNeg) = ((σ.1 107) ((((σ.1 109) (x2).toNatClampNeg) + x4)).toNatClampNeg)) with hc | hc
      · rw [if_pos hc] at h
        exact f_r_isSame_75 σ0 x1 x2 x4 (0 : Int32) σ h0 _ h
      · rw [if_neg hc] at h
        exact f_r_isSame_75 σ0 x1 x2 x4 (1 : Int32) σ h0 _ h
theorem f_r_isSame_24 (σ0 : jx_S) (x1 : Int32) (x2 : Int32) (x3 : Int32) (x4 : Int32) (σ : jx_S) (h0 : jFr ms_r_isSame fs_r_isSame σ0 σ) (t : (Int32 × jx_S)) (h : p_r_isSame_24 x1 x2 x3 x4 σ = some t) : fkI ms_r_isSame fs_r_isSame σ0 t := by
  refine jx_loop_ok (E := fun s t => jFr ms_r_isSame fs_r_isSame σ0 (s.2.2.2.2) → fkI ms_r_isSame fs_r_isSame σ0 t) (fun s t hs => ?_) _ _ _ h h0
  cases t with
  | inl s1 => exact fun b hb hf => hb (f_r_isSame_24_s σ0 (s.1) (s.2.1) (s.2.2.1) (s.2.2.2.1) (s.2.2.2.2) hf _ hs)
  | inr b => exact fun hf => f_r_isSame_24_s σ0 (s.1) (s.2.1) (s.2.2.1) (s.2.2.2.1) (s.2.2.2.2) hf _ hs
theorem f_r_isSame_20 (σ0 : jx_S) (x1 : Int32) (x2 : Int32) (y0 : Int32) (σ : jx_S) (h0 : jFr ms_r_isSame fs_r_isSame σ0 σ) (t : (Int32 × jx_S)) (h : p_r_isSame_20 x1 x2 y0 σ = some t) : fkI ms_r_isSame fs_r_isSame σ0 t := by
  unfold p_r_isSame_20 at h
  exact f_r_isSame_24 σ0 x1 x2 y0 (0 : Int32) σ h0 _ h
theorem f_r_isSame (σ0 : jx_S) (x1 : Int32) (x2 : Int32) (σ : jx_S) (h0 : jFr ms_r_isSame fs_r_isSame σ0 σ) (t : (Int32 × jx_S)) (h : p_r_isSame x1 x2 σ = some t) : fkI ms_r_isSame fs_r_isSame σ0 t := by
  unfold p_r_isSame at h
  obtain ⟨hi, h⟩ := jx_ite0_inv h
  obtain ⟨hi, h⟩ := jx_ite0_inv h
  rcases Classical.em (¬ ((σ.1 110) (x1).toNatClampNeg) = ((σ.1 110) (x2).toNatClampNeg)) with hc | hc
  · rw [if_pos hc] at h
    exact f_r_isSame_20 σ0 x1 x2 (0 : Int32) σ h0 _ h
  · rw [if_neg hc] at h
    exact f_r_isSame_20 σ0 x1 x2 (1 : Int32) σ h0 _ h
def ms_r_stop : List Nat := []
def fs_r_stop : List (Nat × Nat) := [(106, 4), (106, 5), (106, 41)]
theorem f_r_stop (σ0 : jx_S) (x1 : Int32) (x2 : Int32) (σ : jx_S) (h0 : jFr ms_r_stop fs_r_stop σ0 σ) (t : jx_S) (h : p_r_stop x1 x2 σ = some t) : fkV ms_r_stop fs_r_stop σ0 t := by
  unfold p_r_stop at h
  obtain ⟨hi, h⟩ := jx_ite0_inv h
  obtain ⟨q1, hq, h⟩ := Option.bind_eq_some_iff.mp h
  have f_q1 := jFr.step h0 (f_r_fails σ x1 ((σ.1 109) (x2).toNatClampNeg) σ jFr.rfl q1 hq) (by decide +kernel) (by decide +kernel)
  obtain ⟨hb, h⟩ := jx_ite_inv h
  have h9 := Option.some.inj h
  subst h9
  exact (jFr.i f_q1 (by decide))
def ms_r_expect : List Nat := []
def fs_r_expect : List (Nat × Nat) := [(106, 4), (106, 5), (106, 40), (106, 41)]
theorem f_r_expect_29 (σ0 : jx_S) (σ : jx_S) (h0 : jFr ms_r_expect fs_r_expect σ0 σ) (t : jx_S) (h : p_r_expect_29 σ = some t) : fkV ms_r_expect fs_r_expect σ0 t := by
  unfold p_r_expect_29 at h
  rcases Classical.em ((σ.1 106 41) = 0) with hc | hc
  · rw [if_pos hc] at h
    have h9 := Option.some.inj h
    subst h9
    exact (jFr.i h0 (by decide))
  · rw [if_neg hc] at h
    have h9 := Option.some.inj h
    subst h9
    exact (jFr.i h0 (by decide))
theorem f_r_expect (σ0 : jx_S) (x1 : Int32) (σ : jx_S) (h0 : jFr ms_r_expect fs_r_expect σ0 σ) (t : jx_S) (h : p_r_expect x1 σ = some t) : fkV ms_r_expect fs_r_expect σ0 t := by
  unfold p_r_expect at h
  rcases Classical.em ((σ.1 106 41) = 0) with hc | hc
  · rw [if_pos hc] at h
    exact f_r_expect_29 σ0 σ h0 _ h
  · rw [if_neg hc] at h
    obtain ⟨hi, h⟩ := jx_ite0_inv h
    rcases Classical.em (((σ.1 108) ((σ.1 106 40)).toNatClampNeg) = x1) with hc | hc
    · rw [if_pos hc] at h
      exact f_r_expect_29 σ0 σ h0 _ h
    · rw [if_neg hc] at h
      obtain ⟨q1, hq, h⟩ := Option.bind_eq_some_iff.mp h
      have f_q1 := jFr.step h0 (f_r_stop σ (2 : Int32) (σ.1 106 40) σ jFr.rfl q1 hq) (by decide +kernel) (by decide +kernel)
      exact f_r_expect_29 σ0 q1 f_q1 _ h
def ms_r_baseType : List Nat := []
def fs_r_baseType : List (Nat × Nat) := [(106, 4), (106, 5), (106, 40), (106, 41)]
theorem f_r_baseType_61 (σ0 : jx_S) (x1 : Int32) (σ : jx_S) (h0 : jFr ms_r_baseType fs_r_baseType σ0 σ) (t : (Int32 × jx_S)) (h : p_r_baseType_61 x1 σ = some t) : fkI ms_r_baseType fs_r_baseType σ0 t := by
  unfold p_r_baseType_61 at h
  rcases Classical.em ((σ.1 106 41) = 0) with hc | hc
  · rw [if_pos hc] at h
    have h9 := Option.some.inj h
    subst h9
    exact (jFr.i h0 (by decide))
  · rw [if_neg hc] at h
    have h9 := Option.some.inj h
    subst h9
    exact (jFr.i h0 (by decide))
theorem f_r_baseType_18 (σ0 : jx_S) (y0 : Int32) (σ : jx_S) (h0 : jFr ms_r_baseType fs_r_baseType σ0 σ) (t : (Int32 × jx_S)) (h : p_r_baseType_18 y0 σ = some t) : fkI ms_r_baseType fs_r_baseType σ0 t := by
  unfold p_r_baseType_18 at h
  rcases Classical.em ((σ.1 106 41) = 0) with hc | hc
  · rw [if_pos hc] at h
    exact f_r_baseType_61 σ0 y0 σ h0 _ h
  · rw [if_neg hc] at h
    obtain ⟨hi, h⟩ := jx_ite0_inv h
    rcases Classical.em (((σ.1 108) ((σ.1 106 40)).toNatClampNeg) = (3 : Int32)) with hc | hc
    · rw [if_pos hc] at h
      exact f_r_baseType_61 σ0 y0 σ h0 _ h
    · rw [if_neg hc] at h
      obtain ⟨hi, h⟩ := jx_ite0_inv h
      rcases Classical.em (((σ.1 108) ((σ.1 106 40)).toNatClampNeg) = (4 : Int32)) with hc | hc
      · rw [if_pos hc] at h
        exact f_r_baseType_61 σ0 y0 σ h0 _ h
      · rw [if_neg hc] at h
        obtain ⟨q1, hq, h⟩ := Option.bind_eq_some_iff.mp h
        have f_q1 := jFr.step h0 (f_r_stop σ (2 : Int32) (σ.1 106 40) σ jFr.rfl q1 hq) (by decide +kernel) (by decide +kernel)
        exact f_r_baseType_61 σ0 y0 q1 f_q1 _ h
theorem f_r_baseType (σ0 : jx_S) (σ : jx_S) (h0 : jFr ms_r_baseType fs_r_baseType σ0 σ) (t : (Int32 × jx_S)) (h : p_r_baseType σ = some t) : fkI ms_r_baseType fs_r_baseType σ0 t := by
  unfold p_r_baseType at h
  obtain ⟨hi, h⟩ := jx_ite0_inv h
  rcases Classical.em (¬ ((σ.1 108) ((σ.1 106 40)).toNatClampNeg) = (4 : Int32)) with hc | hc
  · rw [if_pos hc] at h
    exact f_r_baseType_18 σ0 (0 : Int32) σ h0 _ h
  · rw [if_neg hc] at h
    exact f_r_baseType_18 σ0 (1 : Int32) σ h0 _ h
def ms_r_typeText : List Nat := []
def fs_r_typeText : List (Nat × Nat) := [(106, 4), (106, 5), (106, 40), (106, 41)]
theorem f_r_typeText (σ0 : jx_S) (σ : jx_S) (h0 : jFr ms_r_typeText fs_r_typeText σ0 σ) (t : (Int32 × jx_S)) (h : p_r_typeText σ = some t) : fkI ms_r_typeText fs_r_typeText σ0 t := by
  unfold p_r_typeText at h
  obtain ⟨q1, hq, h⟩ := Option.bind_eq_some_iff.mp h
  have f_q1 := jFr.step h0 (f_r_baseType σ σ jFr.rfl q1 hq) (by decide +kernel) (by decide +kernel)
  rcases Classical.em ((q1.2.1 106 41) = 0) with hc | hc
  · rw [if_pos hc] at h
    have h9 := Option.some.inj h
    subst h9
    exact f_q1
  · rw [if_neg hc] at h
    obtain ⟨hi, h⟩ := jx_ite0_inv h
    rcases Classical.em (((q1.2.1 108) ((q1.2.1 106 40)).toNatClampNeg) = (21 : Int32)) with hc | hc
    · rw [if_pos hc] at h
      obtain ⟨q2, hq, h⟩ := Option.bind_eq_some_iff.mp h
      have f_q2 := jFr.step (jFr.i f_q1 (by decide)) (f_r_baseType (jx_i q1.2 106 40 ((q1.2.1 106 40) + (1 : Int32))) (jx_i q1.2 106 40 ((q1.2.1 106 40) + (1 : Int32))) jFr.rfl q2 hq) (by decide +kernel) (by decide +kernel)
      rcases Classical.em ((q2.2.1 106 41) = 0) with hc | hc
      · rw [if_pos hc] at h
        have h9 := Option.some.inj h
        subst h9
        exact f_q2
      · rw [if_neg hc] at h
        obtain ⟨hi, h⟩ := jx_ite0_inv h
        rcases Classical.em (((q2.2.1 108) ((q2.2.1 106 40)).toNatClampNeg) = (21 : Int32)) with hc | hc
        · rw [if_pos hc] at h
          obtain ⟨q3, hq, h⟩ := Option.bind_eq_some_iff.mp h
          have f_q3 := jFr.step (jFr.i f_q2 (by decide)) (f_r_baseType (jx_i q2.2 106 40 ((q2.2.1 106 40) + (1 : Int32))) (jx_i q2.2 106 40 ((q2.2.1 106 40) + (1 : Int32))) jFr.rfl q3 hq) (by decide +kernel) (by decide +kernel)
          have h9 := Option.some.inj h
          subst h9
          exact f_q3
        · rw [if_neg hc] at h
          have h9 := Option.some.inj h
          subst h9
          exact f_q2
    · rw [if_neg hc] at h
      have h9 := Option.some.inj h
      subst h9
      exact f_q1
def ms_r_declare : List Nat := [137]
def fs_r_declare : List (Nat × Nat) := [(106, 4), (106, 5), (106, 40), (106, 41), (106, 49)]
theorem f_r_declare_54 (σ0 : jx_S) (x1 : Int32) (σ : jx_S) (h0 : jFr ms_r_declare fs_r_declare σ0 σ) (t : (Int32 × jx_S)) (h : p_r_declare_54 x1 σ = some t) : fkI ms_r_declare fs_r_declare σ0 t := by
  unfold p_r_declare_54 at h
  rcases Classical.em ((σ.1 106 41) = 0) with hc | hc
  · rw [if_pos hc] at h
    have h9 := Option.some.inj h
    subst h9
    exact h0
  · rw [if_neg hc] at h
    obtain ⟨hi, h⟩ := jx_ite0_inv h
    have h9 := Option.some.inj h
    subst h9
    exact (jFr.i (jFr.i (jFr.ia h0 (by decide)) (by decide)) (by decide))
theorem f_r_declare_29 (σ0 : jx_S) (x1 : Int32) (σ : jx_S) (h0 : jFr ms_r_declare fs_r_declare σ0 σ) (t : (Int32 × jx_S)) (h : p_r_declare_29 x1 σ = some t) : fkI ms_r_declare fs_r_declare σ0 t := by
  unfold p_r_declare_29 at h
  rcases Classical.em ((σ.1 106 41) = 0) with hc | hc
  · rw [if_pos hc] at h
    exact f_r_declare_54 σ0 x1 σ h0 _ h
  · rw [if_neg hc] at h
    rcases Classical.em (¬ (σ.1 106 49) = (30 : Int32)) with hc | hc
    · rw [if_pos hc] at h
      exact f_r_declare_54 σ0 x1 σ h0 _ h
    · rw [if_neg hc] at h
      obtain ⟨q1, hq, h⟩ := Option.bind_eq_some_iff.mp h
      have f_q1 := jFr.step h0 (f_r_stop σ (4 : Int32) (σ.1 106 40) σ jFr.rfl q1 hq) (by decide +kernel) (by decide +kernel)
      exact f_r_declare_54 σ0 x1 q1 f_q1 _ h
theorem f_r_declare (σ0 : jx_S) (x1 : Int32) (σ : jx_S) (h0 : jFr ms_r_declare fs_r_declare σ0 σ) (t : (Int32 × jx_S)) (h : p_r_declare x1 σ = some t) : fkI ms_r_declare fs_r_declare σ0 t := by
  unfold p_r_declare at h
  rcases Classical.em ((σ.1 106 41) = 0) with hc | hc
  · rw [if_pos hc] at h
    exact f_r_declare_29 σ0 x1 σ h0 _ h
  · rw [if_neg hc] at h
    obtain ⟨hi, h⟩ := jx_ite0_inv h
    rcases Classical.em (((σ.1 108) ((σ.1 106 40)).toNatClampNeg) = (1 : Int32)) with hc | hc
    · rw [if_pos hc] at h
      exact f_r_declare_29 σ0 x1 σ h0 _ h
    · rw [if_neg hc] at h
      obtain ⟨q2, hq, h⟩ := Option.bind_eq_some_iff.mp h
      have f_q2 := jFr.step h0 (f_r_stop σ (2 : Int32) (σ.1 106 40) σ jFr.rfl q2 hq) (by decide +kernel) (by decide +kernel)
      exact f_r_declare_29 σ0 x1 q2 f_q2 _ h
def ms_r_enter : List Nat := [142, 143]
def fs_r_enter : List (Nat × Nat) := [(106, 52)]
theorem f_r_enter (σ0 : jx_S) (x1 : Int32) (x2 : Int32) (σ : jx_S) (h0 : jFr ms_r_enter fs_r_enter σ0 σ) (t : jx_S) (h : p_r_enter x1 x2 σ = some t) : fkV ms_r_enter fs_r_enter σ0 t := by
  unfold p_r_enter at h
  obtain ⟨hi, h⟩ := jx_ite0_inv h
  obtain ⟨hi, h⟩ := jx_ite0_inv h
  have h9 := Option.some.inj h
  subst h9
  exact (jFr.i (jFr.ia (jFr.ia h0 (by decide)) (by decide)) (by decide))
def ms_r_localNamed : List Nat := []
def fs_r_localNamed : List (Nat × Nat) := []
def fk_r_localNamed_4 (σ0 : jx_S) (t : ((Int32 × Int32 × Int32 × jx_S) ⊕ (Int32 × jx_S))) : Prop := match t with
  | .inl s => jFr ms_r_localNamed fs_r_localNamed σ0 (s.2.2.2)
  | .inr t => fkI ms_r_localNamed fs_r_localNamed σ0 t
theorem f_r_localNamed_36 (σ0 : jx_S) (x1 : Int32) (x3 : Int32) (y0 : Int32) (σ : jx_S) (h0 : jFr ms_r_localNamed fs_r_localNamed σ0 σ) (t : ((Int32 × Int32 × Int32 × jx_S) ⊕ (Int32 × jx_S))) (h : p_r_localNamed_36 x1 x3 y0 σ = some t) : fk_r_localNamed_4 σ0 t := by
  unfold p_r_localNamed_36 at h
  have h9 := Option.some.inj h
  subst h9
  exact h0
theorem f_r_localNamed_4_s (σ0 : jx_S) (x1 : Int32) (x2 : Int32) (x3 : Int32) (σ : jx_S) (h0 : jFr ms_r_localNamed fs_r_localNamed σ0 σ) (t : ((Int32 × Int32 × Int32 × jx_S) ⊕ (Int32 × jx_S))) (h : p_r_localNamed_4_s x1 x2 x3 σ = some t) : fk_r_localNamed_4 σ0 t := by
  unfold p_r_localNamed_4_s at h
  rcases Classical.em ((σ.1 106 52) ≤ x3) with hc | hc
  · rw [if_pos hc] at h
    obtain ⟨t9_1, h9_1, h8_1⟩ := Option.map_eq_some_iff.mp h
    clear h
    subst h8_1
    have h := h9_1
    clear h9_1
    have h9 := Option.some.inj h
    subst h9
    exact h0
  · rw [if_neg hc] at h
    obtain ⟨hi, h⟩ := jx_ite0_inv h
    obtain ⟨q2, hq, h⟩ := Option.bind_eq_some_iff.mp h
    have f_q2 := jFr.step h0 (f_r_isSame σ ((σ.1 143) (x3).toNatClampNeg) x1 σ jFr.rfl q2 hq) (by decide +kernel) (by decide +kernel)
    rcases Classical.em (q2.1 = 0) with hc | hc
    · rw [if_pos hc] at h
      exact f_r_localNamed_36 σ0 x1 x3 x2 q2.2 f_q2 _ h
    · rw [if_neg hc] at h
      obtain ⟨hi, h⟩ := jx_ite0_inv h
      exact f_r_localNamed_36 σ0 x1 x3 ((q2.2.1 142) (x3).toNatClampNeg) q2.2 f_q2 _ h
theorem f_r_localNamed_4 (σ0 : jx_S) (x1 : Int32) (x2 : Int32) (x3 : Int32) (σ : jx_S) (h0 : jFr ms_r_localNamed fs_r_localNamed σ0 σ) (t : (Int32 × jx_S)) (h : p_r_localNamed_4 x1 x2 x3 σ = some t) : fkI ms_r_localNamed fs_r_localNamed σ0 t := by
  refine jx_loop_ok (E := fun s t => jFr ms_r_localNamed fs_r_localNamed σ0 (s.2.2.2) → fkI ms_r_localNamed fs_r_localNamed σ0 t) (fun s t hs => ?_) _ _ _ h h0
  cases t with
  | inl s1 => exact fun b hb hf => hb (f_r_localNamed_4_s σ0 (s.1) (s.2.1) (s.2.2.1) (s.2.2.2) hf _ hs)
  | inr b => exact fun hf => f_r_localNamed_4_s σ0 (s.1) (s.2.1) (s.2.2.1) (s.2.2.2) hf _ hs
theorem f_r_localNamed (σ0 : jx_S) (x1 : Int32) (σ : jx_S) (h0 : jFr ms_r_localNamed fs_r_localNamed σ0 σ) (t : (Int32 × jx_S)) (h : p_r_localNamed x1 σ = some t) : fkI ms_r_localNamed fs_r_localNamed σ0 t := by
  unfold p_r_localNamed at h
  exact f_r_localNamed_4 σ0 x1 (-1 : Int32) (0 : Int32) σ h0 _ h
def ms_r_later : List Nat := [138, 139, 140]
def fs_r_later : List (Nat × Nat) := [(106, 45)]
theorem f_r_later (σ0 : jx_S) (x1 : Int32) (x2 : Int32) (x3 : Int32) (σ : jx_S) (h0 : jFr ms_r_later fs_r_later σ0 σ) (t : jx_S) (h : p_r_later x1 x2 x3 σ = some t) : fkV ms_r_later fs_r_later σ0 t := by
  unfold p_r_later at h
  obtain ⟨hi, h⟩ := jx_ite0_inv h
  obtain ⟨hi, h⟩ := jx_ite0_inv h
  obtain ⟨hi, h⟩ := jx_ite0_inv h
  have h9 := Option.some.inj h
  subst h9
  exact (jFr.i (jFr.ia (jFr.ia (jFr.ia h0 (by decide)) (by decide)) (by decide)) (by decide))
def ms_r_take : List Nat := []
def fs_r_take : List (Nat × Nat) := [(106, 47)]
theorem f_r_take (σ0 : jx_S) (σ : jx_S) (h0 : jFr ms_r_take fs_r_take σ0 σ) (t : (Int32 × jx_S)) (h : p_r_take σ = some t) : fkI ms_r_take fs_r_take σ0 t := by
  unfold p_r_take at h
  obtain ⟨hi, h⟩ := jx_ite0_inv h
  have h9 := Option.some.inj h
  subst h9
  exact (jFr.i h0 (by decide))
def ms_r_node : List Nat := [112, 113, 114, 115, 116, 117, 118, 119, 120, 121, 122, 123, 125]
def fs_r_node : List (Nat × Nat) := [(106, 25)]
theorem f_r_node_125 (σ0 : jx_S) (x6 : Int32) (y0 : Int32) (y1 : Int32) (σ : jx_S) (h0 : jFr ms_r_node fs_r_node σ0 σ) (t : (Int32 × jx_S)) (h : p_r_node_125 x6 y0 y1 σ = some t) : fkI ms_r_node fs_r_node σ0 t := by
  unfold p_r_node_125 at h
  obtain ⟨hi, h⟩ := jx_ite0_inv h
  have h9 := Option.some.inj h
  subst h9
  exact (jFr.i (jFr.ia h0 (by decide)) (by decide))
theorem f_r_node (σ0 : jx_S) (x1 : Int32) (x2 : Int32) (x3 : Int32) (x4 : Int32) (x5 : Int32) (σ : jx_S) (h0 : jFr ms_r_node fs_r_node σ0 σ) (t : (Int32 × jx_S)) (h : p_r_node x1 x2 x3 x4 x5 σ = some t) : fkI ms_r_node fs_r_node σ0 t := by
  unfold p_r_node at h
  obtain ⟨hi, h⟩ := jx_ite0_inv h
  obtain ⟨hi, h⟩ := jx_ite0_inv h
  obtain ⟨hi, h⟩ := jx_ite0_inv h
  obtain ⟨hi, h⟩ := jx_ite0_inv h
  obtain ⟨hi, h⟩ := jx_ite0_inv h
  obtain ⟨hi, h⟩ := jx_ite0_inv h
  obtain ⟨hi, h⟩ := jx_ite0_inv h
  obtain ⟨hi, h⟩ := jx_ite0_inv h
  obtain ⟨hi, h⟩ := jx_ite0_inv h
  obtain ⟨hi, h⟩ := jx_ite0_inv h
  obtain ⟨hi, h⟩ := jx_ite0_inv h
  obtain ⟨hi, h⟩ := jx_ite0_inv h
  rcases Classical.em (x3 < 0) with hc | hc
  · rw [if_pos hc] at h
    exact f_r_node_125 σ0 (σ.1 106 25) (σ.1 106 25) (σ.1 106 25) (jx_i (jx_i (jx_i (jx_i (jx_i (jx_i (jx_i (jx_i (jx_i (jx_i (jx_i (jx_i σ 112 ((σ.1 106 25)).toNatClampNeg x1) 113 ((σ.1 106 25)).toNatClampNeg x2) 114 ((σ.1 106 25)).toNatClampNeg x3) 115 ((σ.1 106 25)).toNatClampNeg x4) 116 ((σ.1 106 25)).toNatClampNeg x5) 117 ((σ.1 106 25)).toNatClampNeg (-1 : Int32)) 118 ((σ.1 106 25)).toNatClampNeg (-1 : Int32)) 119 ((σ.1 106 25)).toNatClampNeg (0 : Int32)) 120 ((σ.1 106 25)).toNatClampNeg (-1 : Int32)) 122 ((σ.1 106 25)).toNatClampNeg (-1 : Int32)) 123 ((σ.1 106 25)).toNatClampNeg (-1 : Int32)) 125 ((σ.1 106 25)).toNatClampNeg (0 : Int32)) (jFr.ia (jFr.ia (jFr.ia (jFr.ia (jFr.ia (jFr.ia (jFr.ia (jFr.ia (jFr.ia (jFr.ia (jFr.ia (jFr.ia h0 (by decide)) (by decide)) (by decide)) (by decide)) (by decide)) (by decide)) (by decide)) (by decide)) (by decide)) (by decide)) (by decide)) (by decide)) _ h
  · rw [if_neg hc] at h
    obtain ⟨hi, h⟩ := jx_ite0_inv h
    exact f_r_node_125 σ0 (σ.1 106 25) ((σ.1 121) (x3).toNatClampNeg) (σ.1 106 25) (jx_i (jx_i (jx_i (jx_i (jx_i (jx_i (jx_i (jx_i (jx_i (jx_i (jx_i (jx_i σ 112 ((σ.1 106 25)).toNatClampNeg x1) 113 ((σ.1 106 25)).toNatClampNeg x2) 114 ((σ.1 106 25)).toNatClampNeg x3) 115 ((σ.1 106 25)).toNatClampNeg x4) 116 ((σ.1 106 25)).toNatClampNeg x5) 117 ((σ.1 106 25)).toNatClampNeg (-1 : Int32)) 118 ((σ.1 106 25)).toNatClampNeg (-1 : Int32)) 119 ((σ.1 106 25)).toNatClampNeg (0 : Int32)) 120 ((σ.1 106 25)).toNatClampNeg (-1 : Int32)) 122 ((σ.1 106 25)).toNatClampNeg (-1 : Int32)) 123 ((σ.1 106 25)).toNatClampNeg (-1 : Int32)) 125 ((σ.1 106 25)).toNatClampNeg (0 : Int32)) (jFr.ia (jFr.ia (jFr.ia (jFr.ia (jFr.ia (jFr.ia (jFr.ia (jFr.ia (jFr.ia (jFr.ia (jFr.ia (jFr.ia h0 (by decide)) (by decide)) (by decide)) (by decide)) (by decide)) (by decide)) (by decide)) (by decide)) (by decide)) (by decide)) (by decide)) (by decide)) _ h
def ms_r_give : List Nat := [141]
def fs_r_give : List (Nat × Nat) := [(106, 47)]
theorem f_r_give (σ0 : jx_S) (x1 : Int32) (σ : jx_S) (h0 : jFr ms_r_give fs_r_give σ0 σ) (t : jx_S) (h : p_r_give x1 σ = some t) : fkV ms_r_give fs_r_give σ0 t := by
  unfold p_r_give at h
  obtain ⟨hi, h⟩ := jx_ite0_inv h
  have h9 := Option.some.inj h
  subst h9
  exact (jFr.i (jFr.ia h0 (by decide)) (by decide))
def ms_r_expression : List Nat := [130, 137, 138, 139, 140]
def fs_r_expression : List (Nat × Nat) := [(106, 4), (106, 5), (106, 40), (106, 41), (106, 45), (106, 48), (106, 49)]
theorem f_r_expression_122 (σ0 : jx_S) (x1 : Int32) (x2 : Int32) (x3 : Int32) (σ : jx_S) (h0 : jFr ms_r_expression fs_r_expression σ0 σ) (t : jx_S) (h : p_r_expression_122 x1 x2 x3 σ = some t) : fkV ms_r_expression fs_r_expression σ0 t := by
  unfold p_r_expression_122 at h
  obtain ⟨q12, hq, h⟩ := Option.bind_eq_some_iff.mp h
  have f_q12 := jFr.step h0 (f_r_later σ (2 : Int32) x1 (x3 + ((100 : Int32) * x2)) σ jFr.rfl q12 hq) (by decide +kernel) (by decide +kernel)
  obtain ⟨q13, hq, h⟩ := Option.bind_eq_some_iff.mp h
  have f_q13 := jFr.step f_q12 (f_r_later q12 (1 : Int32) (0 : Int32) (0 : Int32) q12 jFr.rfl q13 hq) (by decide +kernel) (by decide +kernel)
  have h9 := Option.some.inj h
  subst h9
  exact f_q13
theorem f_r_expression (σ0 : jx_S) (σ : jx_S) (h0 : jFr ms_r_expression fs_r_expression σ0 σ) (t : jx_S) (h : p_r_expression σ = some t) : fkV ms_r_expression fs_r_expression σ0 t := by
  unfold p_r_expression at h
  rcases Classical.em (((σ.1 106 48) + (1 : Int32)) ≤ (30 : Int32)) with hc | hc
  · rw [if_pos hc] at h
    obtain ⟨hi, h⟩ := jx_ite0_inv h
    rcases Classical.em (¬ ((σ.1 108) ((σ.1 106 40)).toNatClampNeg) = (5 : Int32)) with hc | hc
    · rw [if_pos hc] at h
      obtain ⟨hi, h⟩ := jx_ite0_inv h
      rcases Classical.em (¬ ((σ.1 108) ((σ.1 106 40)).toNatClampNeg) = (7 : Int32)) with hc | hc
      · rw [if_pos hc] at h
        obtain ⟨hi, h⟩ := jx_ite0_inv h
        rcases Classical.em (¬ ((σ.1 108) ((σ.1 106 40)).toNatClampNeg) = (10 : Int32)) with hc | hc
        · rw [if_pos hc] at h
          obtain ⟨q1, hq, h⟩ := Option.bind_eq_some_iff.mp h
          have f_q1 := jFr.step (jFr.i h0 (by decide)) (f_r_later (jx_i σ 106 48 ((σ.1 106 48) + (1 : Int32))) (21 : Int32) (0 : Int32) (0 : Int32) (jx_i σ 106 48 ((σ.1 106 48) + (1 : Int32))) jFr.rfl q1 hq) (by decide +kernel) (by decide +kernel)
          obtain ⟨q2, hq, h⟩ := Option.bind_eq_some_iff.mp h
          have f_q2 := jFr.step f_q1 (f_r_later q1 (18 : Int32) (0 : Int32) (0 : Int32) q1 jFr.rfl q2 hq) (by decide +kernel) (by decide +kernel)
          obtain ⟨q3, hq, h⟩ := Option.bind_eq_some_iff.mp h
          have f_q3 := jFr.step f_q2 (f_r_later q2 (10 : Int32) (0 : Int32) (0 : Int32) q2 jFr.rfl q3 hq) (by decide +kernel) (by decide +kernel)
          have h9 := Option.some.inj h
          subst h9
          exact f_q3
        · rw [if_neg hc] at h
          obtain ⟨q4, hq, h⟩ := Option.bind_eq_some_iff.mp h
          have f_q4 := jFr.step (jFr.i (jFr.i h0 (by decide)) (by decide)) (f_r_later (jx_i (jx_i σ 106 48 ((σ.1 106 48) + (1 : Int32))) 106 40 ((σ.1 106 40) + (1 : Int32))) (7 : Int32) (σ.1 106 40) (0 : Int32) (jx_i (jx_i σ 106 48 ((σ.1 106 48) + (1 : Int32))) 106 40 ((σ.1 106 40) + (1 : Int32))) jFr.rfl q4 hq) (by decide +kernel) (by decide +kernel)
          obtain ⟨q5, hq, h⟩ := Option.bind_eq_some_iff.mp h
          have f_q5 := jFr.step f_q4 (f_r_later q4 (1 : Int32) (0 : Int32) (0 : Int32) q4 jFr.rfl q5 hq) (by decide +kernel) (by decide +kernel)
          have h9 := Option.some.inj h
          subst h9
          exact f_q5
      · rw [if_neg hc] at h
        obtain ⟨q6, hq, h⟩ := Option.bind_eq_some_iff.mp h
        have f_q6 := jFr.step (jFr.i (jFr.i h0 (by decide)) (by decide)) (f_r_later (jx_i (jx_i σ 106 48 ((σ.1 106 48) + (1 : Int32))) 106 40 ((σ.1 106 40) + (1 : Int32))) (4 : Int32) (σ.1 106 40) (0 : Int32) (jx_i (jx_i σ 106 48 ((σ.1 106 48) + (1 : Int32))) 106 40 ((σ.1 106 40) + (1 : Int32))) jFr.rfl q6 hq) (by decide +kernel) (by decide +kernel)
        obtain ⟨q7, hq, h⟩ := Option.bind_eq_some_iff.mp h
        have f_q7 := jFr.step f_q6 (f_r_later q6 (1 : Int32) (0 : Int32) (0 : Int32) q6 jFr.rfl q7 hq) (by decide +kernel) (by decide +kernel)
        have h9 := Option.some.inj h
        subst h9
        exact f_q7
    · rw [if_neg hc] at h
      obtain ⟨q8, hq, h⟩ := Option.bind_eq_some_iff.mp h
      have f_q8 := jFr.step (jFr.i (jFr.i h0 (by decide)) (by decide)) (f_r_declare (jx_i (jx_i σ 106 48 ((σ.1 106 48) + (1 : Int32))) 106 40 ((σ.1 106 40) + (1 : Int32))) (0 : Int32) (jx_i (jx_i σ 106 48 ((σ.1 106 48) + (1 : Int32))) 106 40 ((σ.1 106 40) + (1 : Int32))) jFr.rfl q8 hq) (by decide +kernel) (by decide +kernel)
      obtain ⟨q9, hq, h⟩ := Option.bind_eq_some_iff.mp h
      have f_q9 := jFr.step f_q8 (f_r_expect q8.2 (18 : Int32) q8.2 jFr.rfl q9 hq) (by decide +kernel) (by decide +kernel)
      obtain ⟨q10, hq, h⟩ := Option.bind_eq_some_iff.mp h
      have f_q10 := jFr.step f_q9 (f_r_baseType q9 q9 jFr.rfl q10 hq) (by decide +kernel) (by decide +kernel)
      obtain ⟨q11, hq, h⟩ := Option.bind_eq_some_iff.mp h
      have f_q11 := jFr.step f_q10 (f_r_expect q10.2 (19 : Int32) q10.2 jFr.rfl q11 hq) (by decide +kernel) (by decide +kernel)
      rcases Classical.em ((q11.1 106 41) = 0) with hc | hc
      · rw [if_pos hc] at h
        exact f_r_expression_122 σ0 (σ.1 106 40) ((σ.1 106 40) + (1 : Int32)) q8.1 q11 f_q11 _ h
      · rw [if_neg hc] at h
        obtain ⟨hi, h⟩ := jx_ite0_inv h
        obtain ⟨hi, h⟩ := jx_ite0_inv h
        obtain ⟨hi, h⟩ := jx_ite0_inv h
        exact f_r_expression_122 σ0 (σ.1 106 40) ((σ.1 106 40) + (1 : Int32)) q8.1 (jx_i (jx_i q11 137 ((((30 : Int32) * (q11.1 106 38)) + q8.1)).toNatClampNeg q10.1) 130 ((q11.1 106 38)).toNatClampNeg (((q11.1 130) ((q11.1 106 38)).toNatClampNeg) + (1 : Int32))) (jFr.ia (jFr.ia f_q11 (by decide)) (by decide)) _ h
  · rw [if_neg hc] at h
    obtain ⟨q14, hq, h⟩ := Option.bind_eq_some_iff.mp h
    have f_q14 := jFr.step (jFr.i h0 (by decide)) (f_r_stop (jx_i σ 106 48 ((σ.1 106 48) + (1 : Int32))) (3 : Int32) (σ.1 106 40) (jx_i σ 106 48 ((σ.1 106 48) + (1 : Int32))) jFr.rfl q14 hq) (by decide +kernel) (by decide +kernel)
    have h9 := Option.some.inj h
    subst h9
    exact f_q14
def ms_r_bar : List Nat := [137, 138, 139, 140, 142, 143]
def fs_r_bar : List (Nat × Nat) := [(106, 4), (106, 5), (106, 40), (106, 41), (106, 45), (106, 49), (106, 52)]
theorem f_r_bar (σ0 : jx_S) (x1 : Int32) (σ : jx_S) (h0 : jFr ms_r_bar fs_r_bar σ0 σ) (t : jx_S) (h : p_r_bar x1 σ = some t) : fkV ms_r_bar fs_r_bar σ0 t := by
  unfold p_r_bar at h
  obtain ⟨q1, hq, h⟩ := Option.bind_eq_some_iff.mp h
  have f_q1 := jFr.step h0 (f_r_expect σ (22 : Int32) σ jFr.rfl q1 hq) (by decide +kernel) (by decide +kernel)
  obtain ⟨q2, hq, h⟩ := Option.bind_eq_some_iff.mp h
  have f_q2 := jFr.step f_q1 (f_r_declare q1 (0 : Int32) q1 jFr.rfl q2 hq) (by decide +kernel) (by decide +kernel)
  obtain ⟨q3, hq, h⟩ := Option.bind_eq_some_iff.mp h
  have f_q3 := jFr.step f_q2 (f_r_expect q2.2 (18 : Int32) q2.2 jFr.rfl q3 hq) (by decide +kernel) (by decide +kernel)
  obtain ⟨q4, hq, h⟩ := Option.bind_eq_some_iff.mp h
  have f_q4 := jFr.step f_q3 (f_r_declare q3 (1 : Int32) q3 jFr.rfl q4 hq) (by decide +kernel) (by decide +kernel)
  obtain ⟨q5, hq, h⟩ := Option.bind_eq_some_iff.mp h
  have f_q5 := jFr.step f_q4 (f_r_expect q4.2 (21 : Int32) q4.2 jFr.rfl q5 hq) (by decide +kernel) (by decide +kernel)
  obtain ⟨q6, hq, h⟩ := Option.bind_eq_some_iff.mp h
  have f_q6 := jFr.step f_q5 (f_r_enter q5 q2.1 (q1.1 106 40) q5 jFr.rfl q6 hq) (by decide +kernel) (by decide +kernel)
  obtain ⟨q7, hq, h⟩ := Option.bind_eq_some_iff.mp h
  have f_q7 := jFr.step f_q6 (f_r_enter q6 q4.1 (q3.1 106 40) q6 jFr.rfl q7 hq) (by decide +kernel) (by decide +kernel)
  obtain ⟨q8, hq, h⟩ := Option.bind_eq_some_iff.mp h
  have f_q8 := jFr.step f_q7 (f_r_later q7 (9 : Int32) x1 q2.1 q7 jFr.rfl q8 hq) (by decide +kernel) (by decide +kernel)
  obtain ⟨q9, hq, h⟩ := Option.bind_eq_some_iff.mp h
  have f_q9 := jFr.step f_q8 (f_r_later q8 (1 : Int32) (0 : Int32) (0 : Int32) q8 jFr.rfl q9 hq) (by decide +kernel) (by decide +kernel)
  have h9 := Option.some.inj h
  subst h9
  exact f_q9
def ms_r_nameNode : List Nat := [112, 113, 114, 115, 116, 117, 118, 119, 120, 121, 122, 123, 125]
def fs_r_nameNode : List (Nat × Nat) := [(106, 25), (106, 47)]
def fk_r_nameNode_23 (σ0 : jx_S) (t : ((Int32 × Int32 × Int32 × Int32 × jx_S) ⊕ (Int32 × jx_S))) : Prop := match t with
  | .inl s => jFr ms_r_nameNode fs_r_nameNode σ0 (s.2.2.2.2)
  | .inr t => fkI ms_r_nameNode fs_r_nameNode σ0 t
theorem f_r_nameNode_23_s (σ0 : jx_S) (x1 : Int32) (x2 : Int32) (x3 : Int32) (x4 : Int32) (σ : jx_S) (h0 : jFr ms_r_nameNode fs_r_nameNode σ0 σ) (t : ((Int32 × Int32 × Int32 × Int32 × jx_S) ⊕ (Int32 × jx_S))) (h : p_r_nameNode_23_s x1 x2 x3 x4 σ = some t) : fk_r_nameNode_23 σ0 t := by
  unfold p_r_nameNode_23_s at h
  rcases Classical.em (x2 ≤ (x4 + (1 : Int32))) with hc | hc
  · rw [if_pos hc] at h
    obtain ⟨t9_3, h9_3, h8_3⟩ := Option.map_eq_some_iff.mp h
    clear h
    subst h8_3
    have h := h9_3
    clear h9_3
    obtain ⟨q1, hq, h⟩ := Option.bind_eq_some_iff.mp h
    have f_q1 := jFr.step (jFr.i h0 (by decide)) (f_r_node (jx_i σ 106 47 ((σ.1 106 47) - x2)) (1 : Int32) x1 x3 (-1 : Int32) (-1 : Int32) (jx_i σ 106 47 ((σ.1 106 47) - x2)) jFr.rfl q1 hq) (by decide +kernel) (by decide +kernel)
    obtain ⟨hi, h⟩ := jx_ite0_inv h
    obtain ⟨q2, hq, h⟩ := Option.bind_eq_some_iff.mp h
    have f_q2 := jFr.step (jFr.ia f_q1 (by decide)) (f_r_localNamed (jx_i q1.2 119 (q1.1).toNatClampNeg x2) x1 (jx_i q1.2 119 (q1.1).toNatClampNeg x2) jFr.rfl q2 hq) (by decide +kernel) (by decide +kernel)
    obtain ⟨hi, h⟩ := jx_ite0_inv h
    have h9 := Option.some.inj h
    subst h9
    exact (jFr.ia f_q2 (by decide))
  · rw [if_neg hc] at h
    obtain ⟨hi, h⟩ := jx_ite0_inv h
    obtain ⟨hi, h⟩ := jx_ite0_inv h
    obtain ⟨hi, h⟩ := jx_ite0_inv h
    have h9 := Option.some.inj h
    subst h9
    exact (jFr.ia h0 (by decide))
theorem f_r_nameNode_23 (σ0 : jx_S) (x1 : Int32) (x2 : Int32) (x3 : Int32) (x4 : Int32) (σ : jx_S) (h0 : jFr ms_r_nameNode fs_r_nameNode σ0 σ) (t : (Int32 × jx_S)) (h : p_r_nameNode_23 x1 x2 x3 x4 σ = some t) : fkI ms_r_nameNode fs_r_nameNode σ0 t := by
  refine jx_loop_ok (E := fun s t => jFr ms_r_nameNode fs_r_nameNode σ0 (s.2.2.2.2) → fkI ms_r_nameNode fs_r_nameNode σ0 t) (fun s t hs => ?_) _ _ _ h h0
  cases t with
  | inl s1 => exact fun b hb hf => hb (f_r_nameNode_23_s σ0 (s.1) (s.2.1) (s.2.2.1) (s.2.2.2.1) (s.2.2.2.2) hf _ hs)
  | inr b => exact fun hf => f_r_nameNode_23_s σ0 (s.1) (s.2.1) (s.2.2.1) (s.2.2.2.1) (s.2.2.2.2) hf _ hs
theorem f_r_nameNode_19 (σ0 : jx_S) (x1 : Int32) (x2 : Int32) (y0 : Int32) (σ : jx_S) (h0 : jFr ms_r_nameNode fs_r_nameNode σ0 σ) (t : (Int32 × jx_S)) (h : p_r_nameNode_19 x1 x2 y0 σ = some t) : fkI ms_r_nameNode fs_r_nameNode σ0 t := by
  unfold p_r_nameNode_19 at h
  exact f_r_nameNode_23 σ0 x1 x2 y0 (0 : Int32) σ h0 _ h
theorem f_r_nameNode (σ0 : jx_S) (x1 : Int32) (x2 : Int32) (σ : jx_S) (h0 : jFr ms_r_nameNode fs_r_nameNode σ0 σ) (t : (Int32 × jx_S)) (h : p_r_nameNode x1 x2 σ = some t) : fkI ms_r_nameNode fs_r_nameNode σ0 t := by
  unfold p_r_nameNode at h
  rcases Classical.em (x2 ≤ 0) with hc | hc
  · rw [if_pos hc] at h
    exact f_r_nameNode_19 σ0 x1 x2 (-1 : Int32) σ h0 _ h
  · rw [if_neg hc] at h
    obtain ⟨hi, h⟩ := jx_ite0_inv h
    exact f_r_nameNode_19 σ0 x1 x2 ((σ.1 141) (((σ.1 106 47) - x2)).toNatClampNeg) σ h0 _ h
def ms_r_atom : List Nat := [112, 113, 114, 115, 116, 117, 118, 119, 120, 121, 122, 123, 125, 138, 139, 140, 141]
def fs_r_atom : List (Nat × Nat) := [(106, 4), (106, 5), (106, 25), (106, 40), (106, 41), (106, 45), (106, 47)]
theorem f_r_atom_92 (σ0 : jx_S) (x1 : Int32) (σ : jx_S) (h0 : jFr ms_r_atom fs_r_atom σ0 σ) (t : jx_S) (h : p_r_atom_92 x1 σ = some t) : fkV ms_r_atom fs_r_atom σ0 t := by
  unfold p_r_atom_92 at h
  obtain ⟨q1, hq, h⟩ := Option.bind_eq_some_iff.mp h
  have f_q1 := jFr.step h0 (f_r_node σ x1 (σ.1 106 40) (-1 : Int32) (-1 : Int32) (-1 : Int32) σ jFr.rfl q1 hq) (by decide +kernel) (by decide +kernel)
  obtain ⟨q2, hq, h⟩ := Option.bind_eq_some_iff.mp h
  have f_q2 := jFr.step f_q1 (f_r_give q1.2 q1.1 q1.2 jFr.rfl q2 hq) (by decide +kernel) (by decide +kernel)
  have h9 := Option.some.inj h
  subst h9
  exact (jFr.i f_q2 (by decide))
theorem f_r_atom (σ0 : jx_S) (σ : jx_S) (h0 : jFr ms_r_atom fs_r_atom σ0 σ) (t : jx_S) (h : p_r_atom σ = some t) : fkV ms_r_atom fs_r_atom σ0 t := by
  unfold p_r_atom at h
  obtain ⟨hi, h⟩ := jx_ite0_inv h
  rcases Classical.em (¬ ((σ.1 108) ((σ.1 106 40)).toNatClampNeg) = (16 : Int32)) with hc | hc
  · rw [if_pos hc] at h
    rcases Classical.em (¬ ((σ.1 108) ((σ.1 106 40)).toNatClampNeg) = (1 : Int32)) with hc | hc
    · rw [if_pos hc] at h
      rcases Classical.em (((σ.1 108) ((σ.1 106 40)).toNatClampNeg) = (2 : Int32)) with hc | hc
      · rw [if_pos hc] at h
        exact f_r_atom_92 σ0 ((σ.1 108) ((σ.1 106 40)).toNatClampNeg) σ h0 _ h
      · rw [if_neg hc] at h
        rcases Classical.em (((σ.1 108) ((σ.1 106 40)).toNatClampNeg) = (13 : Int32)) with hc | hc
        · rw [if_pos hc] at h
          exact f_r_atom_92 σ0 ((σ.1 108) ((σ.1 106 40)).toNatClampNeg) σ h0 _ h
        · rw [if_neg hc] at h
          rcases Classical.em (¬ ((σ.1 108) ((σ.1 106 40)).toNatClampNeg) = (15 : Int32)) with hc | hc
          · rw [if_pos hc] at h
            obtain ⟨q3, hq, h⟩ := Option.bind_eq_some_iff.mp h
            have f_q3 := jFr.step h0 (f_r_stop σ (2 : Int32) (σ.1 106 40) σ jFr.rfl q3 hq) (by decide +kernel) (by decide +kernel)
            have h9 := Option.some.inj h
            subst h9
            exact f_q3
          · rw [if_neg hc] at h
            exact f_r_atom_92 σ0 ((σ.1 108) ((σ.1 106 40)).toNatClampNeg) σ h0 _ h
    · rw [if_neg hc] at h
      obtain ⟨q4, hq, h⟩ := Option.bind_eq_some_iff.mp h
      have f_q4 := jFr.step h0 (f_r_nameNode σ (σ.1 106 40) (0 : Int32) σ jFr.rfl q4 hq) (by decide +kernel) (by decide +kernel)
      obtain ⟨q5, hq, h⟩ := Option.bind_eq_some_iff.mp h
      have f_q5 := jFr.step f_q4 (f_r_give q4.2 q4.1 q4.2 jFr.rfl q5 hq) (by decide +kernel) (by decide +kernel)
      have h9 := Option.some.inj h
      subst h9
      exact (jFr.i f_q5 (by decide))
  · rw [if_neg hc] at h
    obtain ⟨q6, hq, h⟩ := Option.bind_eq_some_iff.mp h
    have f_q6 := jFr.step (jFr.i h0 (by decide)) (f_r_later (jx_i σ 106 40 ((σ.1 106 40) + (1 : Int32))) (17 : Int32) (0 : Int32) (0 : Int32) (jx_i σ 106 40 ((σ.1 106 40) + (1 : Int32))) jFr.rfl q6 hq) (by decide +kernel) (by decide +kernel)
    obtain ⟨q7, hq, h⟩ := Option.bind_eq_some_iff.mp h
    have f_q7 := jFr.step f_q6 (f_r_later q6 (1 : Int32) (0 : Int32) (0 : Int32) q6 jFr.rfl q7 hq) (by decide +kernel) (by decide +kernel)
    have h9 := Option.some.inj h
    subst h9
    exact f_q7
def ms_r_readMore : List Nat := [112, 113, 114, 115, 116, 117, 118, 119, 120, 121, 122, 123, 125, 138, 139, 140, 141]
def fs_r_readMore : List (Nat × Nat) := [(106, 4), (106, 5), (106, 25), (106, 40), (106, 41), (106, 45), (106, 47), (106, 48)]
theorem f_r_readMore_188 (σ0 : jx_S) (y0 : Int32) (σ : jx_S) (h0 : jFr ms_r_readMore fs_r_readMore σ0 σ) (t : jx_S) (h : p_r_readMore_188 y0 σ = some t) : fkV ms_r_readMore fs_r_readMore σ0 t := by
  unfold p_r_readMore_188 at h
  obtain ⟨q5, hq, h⟩ := Option.bind_eq_some_iff.mp h
  have f_q5 := jFr.step h0 (f_r_later σ y0 (0 : Int32) (0 : Int32) σ jFr.rfl q5 hq) (by decide +kernel) (by decide +kernel)
  have h9 := Option.some.inj h
  subst h9
  exact (jFr.i f_q5 (by decide))
theorem f_r_readMore_155 (σ0 : jx_S) (x1 : Int32) (x2 : Int32) (x4 : Int32) (σ : jx_S) (h0 : jFr ms_r_readMore fs_r_readMore σ0 σ) (t : jx_S) (h : p_r_readMore_155 x1 x2 x4 σ = some t) : fkV ms_r_readMore fs_r_readMore σ0 t := by
  unfold p_r_readMore_155 at h
  obtain ⟨q3, hq, h⟩ := Option.bind_eq_some_iff.mp h
  have f_q3 := jFr.step h0 (f_r_later σ x1 (x2 + (1 : Int32)) (0 : Int32) σ jFr.rfl q3 hq) (by decide +kernel) (by decide +kernel)
  obtain ⟨q4, hq, h⟩ := Option.bind_eq_some_iff.mp h
  have f_q4 := jFr.step f_q3 (f_r_later q3 (19 : Int32) (q3.1 106 40) (0 : Int32) q3 jFr.rfl q4 hq) (by decide +kernel) (by decide +kernel)
  rcases Classical.em (x4 = 0) with hc | hc
  · rw [if_pos hc] at h
    exact f_r_readMore_188 σ0 (14 : Int32) q4 f_q4 _ h
  · rw [if_neg hc] at h
    exact f_r_readMore_188 σ0 (12 : Int32) q4 f_q4 _ h
theorem f_r_readMore_140 (σ0 : jx_S) (x1 : Int32) (x2 : Int32) (x4 : Int32) (σ : jx_S) (h0 : jFr ms_r_readMore fs_r_readMore σ0 σ) (t : jx_S) (h : p_r_readMore_140 x1 x2 x4 σ = some t) : fkV ms_r_readMore fs_r_readMore σ0 t := by
  unfold p_r_readMore_140 at h
  rcases Classical.em (¬ x2 = (10 : Int32)) with hc | hc
  · rw [if_pos hc] at h
    exact f_r_readMore_155 σ0 x1 x2 x4 σ h0 _ h
  · rw [if_neg hc] at h
    obtain ⟨q6, hq, h⟩ := Option.bind_eq_some_iff.mp h
    have f_q6 := jFr.step h0 (f_r_stop σ (3 : Int32) (σ.1 106 40) σ jFr.rfl q6 hq) (by decide +kernel) (by decide +kernel)
    exact f_r_readMore_155 σ0 x1 x2 x4 q6 f_q6 _ h
theorem f_r_readMore_137 (σ0 : jx_S) (x1 : Int32) (x2 : Int32) (x4 : Int32) (y0 : Int32) (y1 : Int32) (σ : jx_S) (h0 : jFr ms_r_readMore fs_r_readMore σ0 σ) (t : jx_S) (h : p_r_readMore_137 x1 x2 x4 y0 y1 σ = some t) : fkV ms_r_readMore fs_r_readMore σ0 t := by
  unfold p_r_readMore_137 at h
  rcases Classical.em (¬ y1 = y0) with hc | hc
  · rw [if_pos hc] at h
    have h9 := Option.some.inj h
    subst h9
    exact h0
  · rw [if_neg hc] at h
    exact f_r_readMore_140 σ0 x1 x2 x4 σ h0 _ h
theorem f_r_readMore_113 (σ0 : jx_S) (x1 : Int32) (x2 : Int32) (x4 : Int32) (y0 : Int32) (y1 : Int32) (σ : jx_S) (h0 : jFr ms_r_readMore fs_r_readMore σ0 σ) (t : jx_S) (h : p_r_readMore_113 x1 x2 x4 y0 y1 σ = some t) : fkV ms_r_readMore fs_r_readMore σ0 t := by
  unfold p_r_readMore_113 at h
  rcases Classical.em (y1 = y0) with hc | hc
  · rw [if_pos hc] at h
    exact f_r_readMore_140 σ0 x1 x2 x4 σ h0 _ h
  · rw [if_neg hc] at h
    obtain ⟨hi, h⟩ := jx_ite0_inv h
    rcases Classical.em (x4 = 0) with hc | hc
    · rw [if_pos hc] at h
      exact f_r_readMore_137 σ0 x1 x2 x4 (26 : Int32) ((σ.1 108) ((σ.1 106 40)).toNatClampNeg) σ h0 _ h
    · rw [if_neg hc] at h
      exact f_r_readMore_137 σ0 x1 x2 x4 (24 : Int32) ((σ.1 108) ((σ.1 106 40)).toNatClampNeg) σ h0 _ h
theorem f_r_readMore_90 (σ0 : jx_S) (x1 : Int32) (x2 : Int32) (y0 : Int32) (σ : jx_S) (h0 : jFr ms_r_readMore fs_r_readMore σ0 σ) (t : jx_S) (h : p_r_readMore_90 x1 x2 y0 σ = some t) : fkV ms_r_readMore fs_r_readMore σ0 t := by
  unfold p_r_readMore_90 at h
  obtain ⟨hi, h⟩ := jx_ite0_inv h
  rcases Classical.em (y0 = 0) with hc | hc
  · rw [if_pos hc] at h
    exact f_r_readMore_113 σ0 x1 x2 y0 (25 : Int32) ((σ.1 108) ((σ.1 106 40)).toNatClampNeg) σ h0 _ h
  · rw [if_neg hc] at h
    exact f_r_readMore_113 σ0 x1 x2 y0 (23 : Int32) ((σ.1 108) ((σ.1 106 40)).toNatClampNeg) σ h0 _ h
theorem f_r_readMore_79 (σ0 : jx_S) (x1 : Int32) (x2 : Int32) (σ : jx_S) (h0 : jFr ms_r_readMore fs_r_readMore σ0 σ) (t : jx_S) (h : p_r_readMore_79 x1 x2 σ = some t) : fkV ms_r_readMore fs_r_readMore σ0 t := by
  unfold p_r_readMore_79 at h
  rcases Classical.em (¬ x1 = (11 : Int32)) with hc | hc
  · rw [if_pos hc] at h
    exact f_r_readMore_90 σ0 x1 x2 (0 : Int32) σ h0 _ h
  · rw [if_neg hc] at h
    exact f_r_readMore_90 σ0 x1 x2 (1 : Int32) σ h0 _ h
theorem f_r_readMore_371 (σ0 : jx_S) (x2 : Int32) (x3 : Int32) (σ : jx_S) (h0 : jFr ms_r_readMore fs_r_readMore σ0 σ) (t : jx_S) (h : p_r_readMore_371 x2 x3 σ = some t) : fkV ms_r_readMore fs_r_readMore σ0 t := by
  unfold p_r_readMore_371 at h
  obtain ⟨q14, hq, h⟩ := Option.bind_eq_some_iff.mp h
  have f_q14 := jFr.step h0 (f_r_later σ (15 : Int32) x2 (x3 + (1 : Int32)) σ jFr.rfl q14 hq) (by decide +kernel) (by decide +kernel)
  obtain ⟨q15, hq, h⟩ := Option.bind_eq_some_iff.mp h
  have f_q15 := jFr.step f_q14 (f_r_later q14 (16 : Int32) (0 : Int32) (0 : Int32) q14 jFr.rfl q15 hq) (by decide +kernel) (by decide +kernel)
  have h9 := Option.some.inj h
  subst h9
  exact f_q15
theorem f_r_readMore_449 (σ0 : jx_S) (σ : jx_S) (h0 : jFr ms_r_readMore fs_r_readMore σ0 σ) (t : jx_S) (h : p_r_readMore_449 σ = some t) : fkV ms_r_readMore fs_r_readMore σ0 t := by
  unfold p_r_readMore_449 at h
  obtain ⟨q20, hq, h⟩ := Option.bind_eq_some_iff.mp h
  have f_q20 := jFr.step h0 (f_r_later σ (19 : Int32) (σ.1 106 40) (0 : Int32) σ jFr.rfl q20 hq) (by decide +kernel) (by decide +kernel)
  obtain ⟨q21, hq, h⟩ := Option.bind_eq_some_iff.mp h
  have f_q21 := jFr.step f_q20 (f_r_later q20 (10 : Int32) (0 : Int32) (0 : Int32) q20 jFr.rfl q21 hq) (by decide +kernel) (by decide +kernel)
  have h9 := Option.some.inj h
  subst h9
  exact (jFr.i f_q21 (by decide))
theorem f_r_readMore (σ0 : jx_S) (x1 : Int32) (x2 : Int32) (x3 : Int32) (σ : jx_S) (h0 : jFr ms_r_readMore fs_r_readMore σ0 σ) (t : jx_S) (h : p_r_readMore x1 x2 x3 σ = some t) : fkV ms_r_readMore fs_r_readMore σ0 t := by
  unfold p_r_readMore at h
  rcases Classical.em (x1 = 10) with hc0 | hc0
  · rw [if_pos hc0] at h
    obtain ⟨q1, hq, h⟩ := Option.bind_eq_some_iff.mp h
    have f_q1 := jFr.step h0 (f_r_later σ (11 : Int32) (0 : Int32) (0 : Int32) σ jFr.rfl q1 hq) (by decide +kernel) (by decide +kernel)
    obtain ⟨q2, hq, h⟩ := Option.bind_eq_some_iff.mp h
    have f_q2 := jFr.step f_q1 (f_r_later q1 (12 : Int32) (0 : Int32) (0 : Int32) q1 jFr.rfl q2 hq) (by decide +kernel) (by decide +kernel)
    have h9 := Option.some.inj h
    subst h9
    exact f_q2
  · rw [if_neg hc0] at h
    rcases Classical.em (x1 = 11) with hc1 | hc1
    · rw [if_pos hc1] at h
      exact f_r_readMore_79 σ0 x1 x2 σ h0 _ h
    · rw [if_neg hc1] at h
      rcases Classical.em (x1 = 12) with hc2 | hc2
      · rw [if_pos hc2] at h
        obtain ⟨q7, hq, h⟩ := Option.bind_eq_some_iff.mp h
        have f_q7 := jFr.step h0 (f_r_later σ (13 : Int32) (0 : Int32) (0 : Int32) σ jFr.rfl q7 hq) (by decide +kernel) (by decide +kernel)
        obtain ⟨q8, hq, h⟩ := Option.bind_eq_some_iff.mp h
        have f_q8 := jFr.step f_q7 (f_r_later q7 (14 : Int32) (0 : Int32) (0 : Int32) q7 jFr.rfl q8 hq) (by decide +kernel) (by decide +kernel)
        have h9 := Option.some.inj h
        subst h9
        exact f_q8
      · rw [if_neg hc2] at h
        rcases Classical.em (x1 = 13) with hc3 | hc3
        · rw [if_pos hc3] at h
          exact f_r_readMore_79 σ0 x1 x2 σ h0 _ h
        · rw [if_neg hc3] at h
          rcases Classical.em (x1 = 14) with hc4 | hc4
          · rw [if_pos hc4] at h
            obtain ⟨hi, h⟩ := jx_ite0_inv h
            rcases Classical.em (¬ ((σ.1 108) ((σ.1 106 40)).toNatClampNeg) = (14 : Int32)) with hc | hc
            · rw [if_pos hc] at h
              obtain ⟨hi, h⟩ := jx_ite0_inv h
              rcases Classical.em (¬ ((σ.1 108) ((σ.1 106 40)).toNatClampNeg) = (1 : Int32)) with hc | hc
              · rw [if_pos hc] at h
                obtain ⟨q9, hq, h⟩ := Option.bind_eq_some_iff.mp h
                have f_q9 := jFr.step h0 (f_r_later σ (16 : Int32) (0 : Int32) (0 : Int32) σ jFr.rfl q9 hq) (by decide +kernel) (by decide +kernel)
                have h9 := Option.some.inj h
                subst h9
                exact f_q9
              · rw [if_neg hc] at h
                obtain ⟨q10, hq, h⟩ := Option.bind_eq_some_iff.mp h
                have f_q10 := jFr.step h0 (f_r_later σ (15 : Int32) (σ.1 106 40) (0 : Int32) σ jFr.rfl q10 hq) (by decide +kernel) (by decide +kernel)
                have h9 := Option.some.inj h
                subst h9
                exact (jFr.i f_q10 (by decide))
            · rw [if_neg hc] at h
              obtain ⟨q11, hq, h⟩ := Option.bind_eq_some_iff.mp h
              have f_q11 := jFr.step h0 (f_r_later σ (20 : Int32) (σ.1 106 40) (0 : Int32) σ jFr.rfl q11 hq) (by decide +kernel) (by decide +kernel)
              obtain ⟨q12, hq, h⟩ := Option.bind_eq_some_iff.mp h
              have f_q12 := jFr.step f_q11 (f_r_later q11 (16 : Int32) (0 : Int32) (0 : Int32) q11 jFr.rfl q12 hq) (by decide +kernel) (by decide +kernel)
              obtain ⟨q13, hq, h⟩ := Option.bind_eq_some_iff.mp h
              have f_q13 := jFr.step f_q12 (f_r_later q12 (16 : Int32) (0 : Int32) (0 : Int32) q12 jFr.rfl q13 hq) (by decide +kernel) (by decide +kernel)
              have h9 := Option.some.inj h
              subst h9
              exact (jFr.i f_q13 (by decide))
          · rw [if_neg hc4] at h
            rcases Classical.em (x1 = 15) with hc5 | hc5
            · rw [if_pos hc5] at h
              obtain ⟨hi, h⟩ := jx_ite0_inv h
              rcases Classical.em (((σ.1 108) ((σ.1 106 40)).toNatClampNeg) = (2 : Int32)) with hc | hc
              · rw [if_pos hc] at h
                exact f_r_readMore_371 σ0 x2 x3 σ h0 _ h
              · rw [if_neg hc] at h
                rcases Classical.em (((σ.1 108) ((σ.1 106 40)).toNatClampNeg) = (1 : Int32)) with hc | hc
                · rw [if_pos hc] at h
                  exact f_r_readMore_371 σ0 x2 x3 σ h0 _ h
                · rw [if_neg hc] at h
                  rcases Classical.em (((σ.1 108) ((σ.1 106 40)).toNatClampNeg) = (13 : Int32)) with hc | hc
                  · rw [if_pos hc] at h
                    exact f_r_readMore_371 σ0 x2 x3 σ h0 _ h
                  · rw [if_neg hc] at h
                    rcases Classical.em (((σ.1 108) ((σ.1 106 40)).toNatClampNeg) = (15 : Int32)) with hc | hc
                    · rw [if_pos hc] at h
                      exact f_r_readMore_371 σ0 x2 x3 σ h0 _ h
                    · rw [if_neg hc] at h
                      rcases Classical.em (¬ ((σ.1 108) ((σ.1 106 40)).toNatClampNeg) = (16 : Int32)) with hc | hc
                      · rw [if_pos hc] at h
                        obtain ⟨q16, hq, h⟩ := Option.bind_eq_some_iff.mp h
                        have f_q16 := jFr.step h0 (f_r_nameNode σ x2 x3 σ jFr.rfl q16 hq) (by decide +kernel) (by decide +kernel)
                        obtain ⟨q17, hq, h⟩ := Option.bind_eq_some_iff.mp h
                        have f_q17 := jFr.step f_q16 (f_r_give q16.2 q16.1 q16.2 jFr.rfl q17 hq) (by decide +kernel) (by decide +kernel)
                        have h9 := Option.some.inj h
                        subst h9
                        exact f_q17
                      · rw [if_neg hc] at h
                        exact f_r_readMore_371 σ0 x2 x3 σ h0 _ h
            · rw [if_neg hc5] at h
              rcases Classical.em (x1 = 16) with hc6 | hc6
              · rw [if_pos hc6] at h
                obtain ⟨q18, hq, h⟩ := Option.bind_eq_some_iff.mp h
                have f_q18 := jFr.step h0 (f_r_atom σ σ jFr.rfl q18 hq) (by decide +kernel) (by decide +kernel)
                have h9 := Option.some.inj h
                subst h9
                exact f_q18
              · rw [if_neg hc6] at h
                rcases Classical.em (x1 = 17) with hc7 | hc7
                · rw [if_pos hc7] at h
                  obtain ⟨q19, hq, h⟩ := Option.bind_eq_some_iff.mp h
                  have f_q19 := jFr.step h0 (f_r_expect σ (17 : Int32) σ jFr.rfl q19 hq) (by decide +kernel) (by decide +kernel)
                  have h9 := Option.some.inj h
                  subst h9
                  exact f_q19
                · rw [if_neg hc7] at h
                  rcases Classical.em (x1 = 18) with hc8 | hc8
                  · rw [if_pos hc8] at h
                    obtain ⟨hi, h⟩ := jx_ite0_inv h
                    rcases Classical.em (((σ.1 108) ((σ.1 106 40)).toNatClampNeg) = (19 : Int32)) with hc | hc
                    · rw [if_pos hc] at h
                      exact f_r_readMore_449 σ0 σ h0 _ h
                    · rw [if_neg hc] at h
                      obtain ⟨hi, h⟩ := jx_ite0_inv h
                      rcases Classical.em (¬ ((σ.1 108) ((σ.1 106 40)).toNatClampNeg) = (27 : Int32)) with hc | hc
                      · rw [if_pos hc] at h
                        have h9 := Option.some.inj h
                        subst h9
                        exact h0
                      · rw [if_neg hc] at h
                        exact f_r_readMore_449 σ0 σ h0 _ h
                  · rw [if_neg hc8] at h
                    rcases Classical.em (x1 = 19) with hc9 | hc9
                    · rw [if_pos hc9] at h
                      obtain ⟨q22, hq, h⟩ := Option.bind_eq_some_iff.mp h
                      have f_q22 := jFr.step h0 (f_r_take σ σ jFr.rfl q22 hq) (by decide +kernel) (by decide +kernel)
                      obtain ⟨q23, hq, h⟩ := Option.bind_eq_some_iff.mp h
                      have f_q23 := jFr.step f_q22 (f_r_take q22.2 q22.2 jFr.rfl q23 hq) (by decide +kernel) (by decide +kernel)
                      obtain ⟨hi, h⟩ := jx_ite0_inv h
                      obtain ⟨q24, hq, h⟩ := Option.bind_eq_some_iff.mp h
                      have f_q24 := jFr.step f_q23 (f_r_node q23.2 ((q23.2.1 108) (x2).toNatClampNeg) x2 q23.1 q22.1 (-1 : Int32) q23.2 jFr.rfl q24 hq) (by decide +kernel) (by decide +kernel)
                      obtain ⟨q25, hq, h⟩ := Option.bind_eq_some_iff.mp h
                      have f_q25 := jFr.step f_q24 (f_r_give q24.2 q24.1 q24.2 jFr.rfl q25 hq) (by decide +kernel) (by decide +kernel)
                      have h9 := Option.some.inj h
                      subst h9
                      exact f_q25
                    · rw [if_neg hc9] at h
                      rcases Classical.em (x1 = 20) with hc10 | hc10
                      · rw [if_pos hc10] at h
                        obtain ⟨q26, hq, h⟩ := Option.bind_eq_some_iff.mp h
                        have f_q26 := jFr.step h0 (f_r_take σ σ jFr.rfl q26 hq) (by decide +kernel) (by decide +kernel)
                        obtain ⟨q27, hq, h⟩ := Option.bind_eq_some_iff.mp h
                        have f_q27 := jFr.step f_q26 (f_r_take q26.2 q26.2 jFr.rfl q27 hq) (by decide +kernel) (by decide +kernel)
                        obtain ⟨q28, hq, h⟩ := Option.bind_eq_some_iff.mp h
                        have f_q28 := jFr.step f_q27 (f_r_node q27.2 (14 : Int32) x2 q27.1 q26.1 (-1 : Int32) q27.2 jFr.rfl q28 hq) (by decide +kernel) (by decide +kernel)
                        obtain ⟨q29, hq, h⟩ := Option.bind_eq_some_iff.mp h
                        have f_q29 := jFr.step f_q28 (f_r_give q28.2 q28.1 q28.2 jFr.rfl q29 hq) (by decide +kernel) (by decide +kernel)
                        have h9 := Option.some.inj h
                        subst h9
                        exact f_q29
                      · rw [if_neg hc10] at h
                        have h9 := Option.some.inj h
                        subst h9
                        exact (jFr.i h0 (by decide))
def ms_r_readOne : List Nat := [112, 113, 114, 115, 116, 117, 118, 119, 120, 121, 122, 123, 125, 130, 137, 138, 139, 140, 141, 142, 143]
def fs_r_readOne : List (Nat × Nat) := [(106, 4), (106, 5), (106, 25), (106, 40), (106, 41), (106, 45), (106, 47), (106, 48), (106, 49), (106, 52)]
theorem f_r_readOne_195 (σ0 : jx_S) (x2 : Int32) (y0 : Int32) (σ : jx_S) (h0 : jFr ms_r_readOne fs_r_readOne σ0 σ) (t : jx_S) (h : p_r_readOne_195 x2 y0 σ = some t) : fkV ms_r_readOne fs_r_readOne σ0 t := by
  unfold p_r_readOne_195 at h
  obtain ⟨q11, hq, h⟩ := Option.bind_eq_some_iff.mp h
  have f_q11 := jFr.step h0 (f_r_later σ y0 x2 (0 : Int32) σ jFr.rfl q11 hq) (by decide +kernel) (by decide +kernel)
  obtain ⟨q12, hq, h⟩ := Option.bind_eq_some_iff.mp h
  have f_q12 := jFr.step f_q11 (f_r_later q11 (1 : Int32) (0 : Int32) (0 : Int32) q11 jFr.rfl q12 hq) (by decide +kernel) (by decide +kernel)
  have h9 := Option.some.inj h
  subst h9
  exact f_q12
theorem f_r_readOne_180 (σ0 : jx_S) (x1 : Int32) (x2 : Int32) (y0 : Int32) (σ : jx_S) (h0 : jFr ms_r_readOne fs_r_readOne σ0 σ) (t : jx_S) (h : p_r_readOne_180 x1 x2 y0 σ = some t) : fkV ms_r_readOne fs_r_readOne σ0 t := by
  unfold p_r_readOne_180 at h
  obtain ⟨q10, hq, h⟩ := Option.bind_eq_some_iff.mp h
  have f_q10 := jFr.step h0 (f_r_expect σ y0 σ jFr.rfl q10 hq) (by decide +kernel) (by decide +kernel)
  rcases Classical.em (¬ x1 = (4 : Int32)) with hc | hc
  · rw [if_pos hc] at h
    exact f_r_readOne_195 σ0 x2 (6 : Int32) q10 f_q10 _ h
  · rw [if_neg hc] at h
    exact f_r_readOne_195 σ0 x2 (5 : Int32) q10 f_q10 _ h
theorem f_r_readOne_167 (σ0 : jx_S) (x1 : Int32) (x2 : Int32) (σ : jx_S) (h0 : jFr ms_r_readOne fs_r_readOne σ0 σ) (t : jx_S) (h : p_r_readOne_167 x1 x2 σ = some t) : fkV ms_r_readOne fs_r_readOne σ0 t := by
  unfold p_r_readOne_167 at h
  rcases Classical.em (¬ x1 = (4 : Int32)) with hc | hc
  · rw [if_pos hc] at h
    exact f_r_readOne_180 σ0 x1 x2 (9 : Int32) σ h0 _ h
  · rw [if_neg hc] at h
    exact f_r_readOne_180 σ0 x1 x2 (8 : Int32) σ h0 _ h
theorem f_r_readOne (σ0 : jx_S) (x1 : Int32) (x2 : Int32) (x3 : Int32) (σ : jx_S) (h0 : jFr ms_r_readOne fs_r_readOne σ0 σ) (t : jx_S) (h : p_r_readOne x1 x2 x3 σ = some t) : fkV ms_r_readOne fs_r_readOne σ0 t := by
  unfold p_r_readOne at h
  rcases Classical.em (x1 = 1) with hc0 | hc0
  · rw [if_pos hc0] at h
    obtain ⟨q1, hq, h⟩ := Option.bind_eq_some_iff.mp h
    have f_q1 := jFr.step h0 (f_r_expression σ σ jFr.rfl q1 hq) (by decide +kernel) (by decide +kernel)
    have h9 := Option.some.inj h
    subst h9
    exact f_q1
  · rw [if_neg hc0] at h
    rcases Classical.em (x1 = 2) with hc1 | hc1
    · rw [if_pos hc1] at h
      obtain ⟨q2, hq, h⟩ := Option.bind_eq_some_iff.mp h
      have f_q2 := jFr.step h0 (f_r_expect σ (6 : Int32) σ jFr.rfl q2 hq) (by decide +kernel) (by decide +kernel)
      obtain ⟨q3, hq, h⟩ := Option.bind_eq_some_iff.mp h
      have f_q3 := jFr.step f_q2 (f_r_enter q2 (x3 - x3 / (100 : Int32) * (100 : Int32)) (x3 / (100 : Int32)) q2 jFr.rfl q3 hq) (by decide +kernel) (by decide +kernel)
      obtain ⟨q4, hq, h⟩ := Option.bind_eq_some_iff.mp h
      have f_q4 := jFr.step f_q3 (f_r_later q3 (3 : Int32) x2 (x3 - x3 / (100 : Int32) * (100 : Int32)) q3 jFr.rfl q4 hq) (by decide +kernel) (by decide +kernel)
      obtain ⟨q5, hq, h⟩ := Option.bind_eq_some_iff.mp h
      have f_q5 := jFr.step f_q4 (f_r_later q4 (1 : Int32) (0 : Int32) (0 : Int32) q4 jFr.rfl q5 hq) (by decide +kernel) (by decide +kernel)
      have h9 := Option.some.inj h
      subst h9
      exact f_q5
    · rw [if_neg hc1] at h
      rcases Classical.em (x1 = 3) with hc2 | hc2
      · rw [if_pos hc2] at h
        obtain ⟨q6, hq, h⟩ := Option.bind_eq_some_iff.mp h
        have f_q6 := jFr.step (jFr.i (jFr.i h0 (by decide)) (by decide)) (f_r_take (jx_i (jx_i σ 106 52 ((σ.1 106 52) - (1 : Int32))) 106 48 ((σ.1 106 48) - (1 : Int32))) (jx_i (jx_i σ 106 52 ((σ.1 106 52) - (1 : Int32))) 106 48 ((σ.1 106 48) - (1 : Int32))) jFr.rfl q6 hq) (by decide +kernel) (by decide +kernel)
        obtain ⟨q7, hq, h⟩ := Option.bind_eq_some_iff.mp h
        have f_q7 := jFr.step f_q6 (f_r_take q6.2 q6.2 jFr.rfl q7 hq) (by decide +kernel) (by decide +kernel)
        obtain ⟨q8, hq, h⟩ := Option.bind_eq_some_iff.mp h
        have f_q8 := jFr.step f_q7 (f_r_node q7.2 (5 : Int32) x2 q7.1 q6.1 (-1 : Int32) q7.2 jFr.rfl q8 hq) (by decide +kernel) (by decide +kernel)
        obtain ⟨hi, h⟩ := jx_ite0_inv h
        obtain ⟨hi, h⟩ := jx_ite0_inv h
        obtain ⟨q9, hq, h⟩ := Option.bind_eq_some_iff.mp h
        have f_q9 := jFr.step (jFr.ia (jFr.ia f_q8 (by decide)) (by decide)) (f_r_give (jx_i (jx_i q8.2 117 (q8.1).toNatClampNeg x3) 122 (q7.1).toNatClampNeg x3) q8.1 (jx_i (jx_i q8.2 117 (q8.1).toNatClampNeg x3) 122 (q7.1).toNatClampNeg x3) jFr.rfl q9 hq) (by decide +kernel) (by decide +kernel)
        have h9 := Option.some.inj h
        subst h9
        exact f_q9
      · rw [if_neg hc2] at h
        rcases Classical.em (x1 = 4) with hc3 | hc3
        · rw [if_pos hc3] at h
          exact f_r_readOne_167 σ0 x1 x2 σ h0 _ h
        · rw [if_neg hc3] at h
          rcases Classical.em (x1 = 5) with hc4 | hc4
          · rw [if_pos hc4] at h
            exact f_r_readOne_167 σ0 x1 x2 σ h0 _ h
          · rw [if_neg hc4] at h
            rcases Classical.em (x1 = 6) with hc5 | hc5
            · rw [if_pos hc5] at h
              obtain ⟨q13, hq, h⟩ := Option.bind_eq_some_iff.mp h
              have f_q13 := jFr.step (jFr.i h0 (by decide)) (f_r_take (jx_i σ 106 48 ((σ.1 106 48) - (1 : Int32))) (jx_i σ 106 48 ((σ.1 106 48) - (1 : Int32))) jFr.rfl q13 hq) (by decide +kernel) (by decide +kernel)
              obtain ⟨q14, hq, h⟩ := Option.bind_eq_some_iff.mp h
              have f_q14 := jFr.step f_q13 (f_r_take q13.2 q13.2 jFr.rfl q14 hq) (by decide +kernel) (by decide +kernel)
              obtain ⟨q15, hq, h⟩ := Option.bind_eq_some_iff.mp h
              have f_q15 := jFr.step f_q14 (f_r_take q14.2 q14.2 jFr.rfl q15 hq) (by decide +kernel) (by decide +kernel)
              obtain ⟨q16, hq, h⟩ := Option.bind_eq_some_iff.mp h
              have f_q16 := jFr.step f_q15 (f_r_node q15.2 (7 : Int32) x2 q15.1 q14.1 q13.1 q15.2 jFr.rfl q16 hq) (by decide +kernel) (by decide +kernel)
              obtain ⟨q17, hq, h⟩ := Option.bind_eq_some_iff.mp h
              have f_q17 := jFr.step f_q16 (f_r_give q16.2 q16.1 q16.2 jFr.rfl q17 hq) (by decide +kernel) (by decide +kernel)
              have h9 := Option.some.inj h
              subst h9
              exact f_q17
            · rw [if_neg hc5] at h
              rcases Classical.em (x1 = 7) with hc6 | hc6
              · rw [if_pos hc6] at h
                obtain ⟨q18, hq, h⟩ := Option.bind_eq_some_iff.mp h
                have f_q18 := jFr.step h0 (f_r_expect σ (11 : Int32) σ jFr.rfl q18 hq) (by decide +kernel) (by decide +kernel)
                obtain ⟨q19, hq, h⟩ := Option.bind_eq_some_iff.mp h
                have f_q19 := jFr.step f_q18 (f_r_expect q18 (12 : Int32) q18 jFr.rfl q19 hq) (by decide +kernel) (by decide +kernel)
                obtain ⟨q20, hq, h⟩ := Option.bind_eq_some_iff.mp h
                have f_q20 := jFr.step f_q19 (f_r_expect q19 (21 : Int32) q19 jFr.rfl q20 hq) (by decide +kernel) (by decide +kernel)
                obtain ⟨q21, hq, h⟩ := Option.bind_eq_some_iff.mp h
                have f_q21 := jFr.step f_q20 (f_r_later q20 (8 : Int32) x2 (0 : Int32) q20 jFr.rfl q21 hq) (by decide +kernel) (by decide +kernel)
                obtain ⟨q22, hq, h⟩ := Option.bind_eq_some_iff.mp h
                have f_q22 := jFr.step f_q21 (f_r_later q21 (1 : Int32) (0 : Int32) (0 : Int32) q21 jFr.rfl q22 hq) (by decide +kernel) (by decide +kernel)
                have h9 := Option.some.inj h
                subst h9
                exact f_q22
              · rw [if_neg hc6] at h
                rcases Classical.em (x1 = 8) with hc7 | hc7
                · rw [if_pos hc7] at h
                  obtain ⟨q23, hq, h⟩ := Option.bind_eq_some_iff.mp h
                  have f_q23 := jFr.step h0 (f_r_bar σ x2 σ jFr.rfl q23 hq) (by decide +kernel) (by decide +kernel)
                  have h9 := Option.some.inj h
                  subst h9
                  exact f_q23
                · rw [if_neg hc7] at h
                  rcases Classical.em (x1 = 9) with hc8 | hc8
                  · rw [if_pos hc8] at h
                    obtain ⟨q24, hq, h⟩ := Option.bind_eq_some_iff.mp h
                    have f_q24 := jFr.step (jFr.i (jFr.i h0 (by decide)) (by decide)) (f_r_take (jx_i (jx_i σ 106 52 ((σ.1 106 52) - (2 : Int32))) 106 48 ((σ.1 106 48) - (1 : Int32))) (jx_i (jx_i σ 106 52 ((σ.1 106 52) - (2 : Int32))) 106 48 ((σ.1 106 48) - (1 : Int32))) jFr.rfl q24 hq) (by decide +kernel) (by decide +kernel)
                    obtain ⟨q25, hq, h⟩ := Option.bind_eq_some_iff.mp h
                    have f_q25 := jFr.step f_q24 (f_r_take q24.2 q24.2 jFr.rfl q25 hq) (by decide +kernel) (by decide +kernel)
                    obtain ⟨q26, hq, h⟩ := Option.bind_eq_some_iff.mp h
                    have f_q26 := jFr.step f_q25 (f_r_take q25.2 q25.2 jFr.rfl q26 hq) (by decide +kernel) (by decide +kernel)
                    obtain ⟨q27, hq, h⟩ := Option.bind_eq_some_iff.mp h
                    have f_q27 := jFr.step f_q26 (f_r_node q26.2 (10 : Int32) x2 q26.1 q25.1 q24.1 q26.2 jFr.rfl q27 hq) (by decide +kernel) (by decide +kernel)
                    obtain ⟨hi, h⟩ := jx_ite0_inv h
                    obtain ⟨hi, h⟩ := jx_ite0_inv h
                    obtain ⟨q28, hq, h⟩ := Option.bind_eq_some_iff.mp h
                    have f_q28 := jFr.step (jFr.ia (jFr.ia f_q27 (by decide)) (by decide)) (f_r_give (jx_i (jx_i q27.2 117 (q27.1).toNatClampNeg x3) 118 (q27.1).toNatClampNeg (x3 + (1 : Int32))) q27.1 (jx_i (jx_i q27.2 117 (q27.1).toNatClampNeg x3) 118 (q27.1).toNatClampNeg (x3 + (1 : Int32))) jFr.rfl q28 hq) (by decide +kernel) (by decide +kernel)
                    have h9 := Option.some.inj h
                    subst h9
                    exact f_q28
                  · rw [if_neg hc8] at h
                    obtain ⟨q29, hq, h⟩ := Option.bind_eq_some_iff.mp h
                    have f_q29 := jFr.step h0 (f_r_readMore σ x1 x2 x3 σ jFr.rfl q29 hq) (by decide +kernel) (by decide +kernel)
                    have h9 := Option.some.inj h
                    subst h9
                    exact f_q29
def ms_r_parameter0 : List Nat := [127, 134, 135, 137, 142, 143]
def fs_r_parameter0 : List (Nat × Nat) := [(106, 4), (106, 5), (106, 40), (106, 41), (106, 49), (106, 52)]
theorem f_r_parameter0_56 (σ0 : jx_S) (x1 : Int32) (x2 : Int32) (σ : jx_S) (h0 : jFr ms_r_parameter0 fs_r_parameter0 σ0 σ) (t : jx_S) (h : p_r_parameter0_56 x1 x2 σ = some t) : fkV ms_r_parameter0 fs_r_parameter0 σ0 t := by
  unfold p_r_parameter0_56 at h
  obtain ⟨q2, hq, h⟩ := Option.bind_eq_some_iff.mp h
  have f_q2 := jFr.step h0 (f_r_declare σ (0 : Int32) σ jFr.rfl q2 hq) (by decide +kernel) (by decide +kernel)
  obtain ⟨q3, hq, h⟩ := Option.bind_eq_some_iff.mp h
  have f_q3 := jFr.step f_q2 (f_r_expect q2.2 (18 : Int32) q2.2 jFr.rfl q3 hq) (by decide +kernel) (by decide +kernel)
  obtain ⟨q4, hq, h⟩ := Option.bind_eq_some_iff.mp h
  have f_q4 := jFr.step f_q3 (f_r_typeText q3 q3 jFr.rfl q4 hq) (by decide +kernel) (by decide +kernel)
  obtain ⟨q5, hq, h⟩ := Option.bind_eq_some_iff.mp h
  have f_q5 := jFr.step f_q4 (f_r_expect q4.2 (17 : Int32) q4.2 jFr.rfl q5 hq) (by decide +kernel) (by decide +kernel)
  rcases Classical.em ((q5.1 106 41) = 0) with hc | hc
  · rw [if_pos hc] at h
    have h9 := Option.some.inj h
    subst h9
    exact f_q5
  · rw [if_neg hc] at h
    obtain ⟨hi, h⟩ := jx_ite0_inv h
    obtain ⟨hi, h⟩ := jx_ite0_inv h
    obtain ⟨hi, h⟩ := jx_ite0_inv h
    obtain ⟨hi, h⟩ := jx_ite0_inv h
    obtain ⟨hi, h⟩ := jx_ite0_inv h
    obtain ⟨q6, hq, h⟩ := Option.bind_eq_some_iff.mp h
    have f_q6 := jFr.step (jFr.ia (jFr.ia (jFr.ia f_q5 (by decide)) (by decide)) (by decide)) (f_r_enter (jx_i (jx_i (jx_i q5 134 ((((8 : Int32) * x1) + ((q5.1 127) (x1).toNatClampNeg))).toNatClampNeg x2) 135 ((((8 : Int32) * x1) + ((q5.1 127) (x1).toNatClampNeg))).toNatClampNeg q4.1) 137 ((((30 : Int32) * x1) + q2.1)).toNatClampNeg q4.1) q2.1 x2 (jx_i (jx_i (jx_i q5 134 ((((8 : Int32) * x1) + ((q5.1 127) (x1).toNatClampNeg))).toNatClampNeg x2) 135 ((((8 : Int32) * x1) + ((q5.1 127) (x1).toNatClampNeg))).toNatClampNeg q4.1) 137 ((((30 : Int32) * x1) + q2.1)).toNatClampNeg q4.1) jFr.rfl q6 hq) (by decide +kernel) (by decide +kernel)
    obtain ⟨hi, h⟩ := jx_ite0_inv h
    obtain ⟨hi, h⟩ := jx_ite0_inv h
    have h9 := Option.some.inj h
    subst h9
    exact (jFr.ia f_q6 (by decide))
theorem f_r_parameter0 (σ0 : jx_S) (σ : jx_S) (h0 : jFr ms_r_parameter0 fs_r_parameter0 σ0 σ) (t : jx_S) (h : p_r_parameter0 σ = some t) : fkV ms_r_parameter0 fs_r_parameter0 σ0 t := by
  unfold p_r_parameter0 at h
  obtain ⟨q1, hq, h⟩ := Option.bind_eq_some_iff.mp h
  have f_q1 := jFr.step h0 (f_r_expect σ (16 : Int32) σ jFr.rfl q1 hq) (by decide +kernel) (by decide +kernel)
  rcases Classical.em ((q1.1 106 41) = 0) with hc | hc
  · rw [if_pos hc] at h
    exact f_r_parameter0_56 σ0 (σ.1 106 38) (q1.1 106 40) q1 f_q1 _ h
  · rw [if_neg hc] at h
    obtain ⟨hi, h⟩ := jx_ite0_inv h
    rcases Classical.em (¬ ((q1.1 108) ((q1.1 106 40)).toNatClampNeg) = (1 : Int32)) with hc | hc
    · rw [if_pos hc] at h
      exact f_r_parameter0_56 σ0 (σ.1 106 38) (q1.1 106 40) q1 f_q1 _ h
    · rw [if_neg hc] at h
      obtain ⟨hi, h⟩ := jx_ite0_inv h
      rcases Classical.em (¬ ((q1.1 127) ((σ.1 106 38)).toNatClampNeg) = (8 : Int32)) with hc | hc
      · rw [if_pos hc] at h
        exact f_r_parameter0_56 σ0 (σ.1 106 38) (q1.1 106 40) q1 f_q1 _ h
      · rw [if_neg hc] at h
        obtain ⟨q7, hq, h⟩ := Option.bind_eq_some_iff.mp h
        have f_q7 := jFr.step f_q1 (f_r_stop q1 (4 : Int32) (q1.1 106 40) q1 jFr.rfl q7 hq) (by decide +kernel) (by decide +kernel)
        exact f_r_parameter0_56 σ0 (σ.1 106 38) (q1.1 106 40) q7 f_q7 _ h
def ms_r_function0 : List Nat := [112, 113, 114, 115, 116, 117, 118, 119, 120, 121, 122, 123, 125, 126, 127, 128, 129, 130, 131, 132, 134, 135, 137, 138, 139, 140, 141, 142, 143]
def fs_r_function0 : List (Nat × Nat) := [(106, 4), (106, 5), (106, 25), (106, 38), (106, 40), (106, 41), (106, 45), (106, 47), (106, 48), (106, 49), (106, 52)]
def fk_r_function0_103 (σ0 : jx_S) (t : ((Int32 × jx_S) ⊕ jx_S)) : Prop := match t with
  | .inl s => jFr ms_r_function0 fs_r_function0 σ0 (s.2)
  | .inr t => fkV ms_r_function0 fs_r_function0 σ0 t
def fk_r_function0_170 (σ0 : jx_S) (t : ((Int32 × jx_S) ⊕ jx_S)) : Prop := match t with
  | .inl s => jFr ms_r_function0 fs_r_function0 σ0 (s.2)
  | .inr t => fkV ms_r_function0 fs_r_function0 σ0 t
theorem f_r_function0_245 (σ0 : jx_S) (x1 : Int32) (σ : jx_S) (h0 : jFr ms_r_function0 fs_r_function0 σ0 σ) (t : jx_S) (h : p_r_function0_245 x1 σ = some t) : fkV ms_r_function0 fs_r_function0 σ0 t := by
  unfold p_r_function0_245 at h
  obtain ⟨q5, hq, h⟩ := Option.bind_eq_some_iff.mp h
  have f_q5 := jFr.step h0 (f_r_expect σ (20 : Int32) σ jFr.rfl q5 hq) (by decide +kernel) (by decide +kernel)
  obtain ⟨hi, h⟩ := jx_ite0_inv h
  rcases Classical.em ((q5.1 106 41) = 0) with hc | hc
  · rw [if_pos hc] at h
    have h9 := Option.some.inj h
    subst h9
    exact (jFr.i (jFr.ia f_q5 (by decide)) (by decide))
  · rw [if_neg hc] at h
    have h9 := Option.some.inj h
    subst h9
    exact (jFr.i (jFr.ia f_q5 (by decide)) (by decide))
theorem f_r_function0_228 (σ0 : jx_S) (x1 : Int32) (σ : jx_S) (h0 : jFr ms_r_function0 fs_r_function0 σ0 σ) (t : jx_S) (h : p_r_function0_228 x1 σ = some t) : fkV ms_r_function0 fs_r_function0 σ0 t := by
  unfold p_r_function0_228 at h
  rcases Classical.em ((σ.1 106 41) = 0) with hc | hc
  · rw [if_pos hc] at h
    exact f_r_function0_245 σ0 x1 σ h0 _ h
  · rw [if_neg hc] at h
    obtain ⟨q6, hq, h⟩ := Option.bind_eq_some_iff.mp h
    have f_q6 := jFr.step h0 (f_r_take σ σ jFr.rfl q6 hq) (by decide +kernel) (by decide +kernel)
    obtain ⟨hi, h⟩ := jx_ite0_inv h
    exact f_r_function0_245 σ0 x1 (jx_i q6.2 131 (x1).toNatClampNeg q6.1) (jFr.ia f_q6 (by decide)) _ h
theorem f_r_function0_170_s (σ0 : jx_S) (x1 : Int32) (σ : jx_S) (h0 : jFr ms_r_function0 fs_r_function0 σ0 σ) (t : ((Int32 × jx_S) ⊕ jx_S)) (h : p_r_function0_170_s x1 σ = some t) : fk_r_function0_170 σ0 t := by
  unfold p_r_function0_170_s at h
  rcases Classical.em ((σ.1 106 41) = 0) with hc | hc
  · rw [if_pos hc] at h
    obtain ⟨t9_7, h9_7, h8_7⟩ := Option.map_eq_some_iff.mp h
    clear h
    subst h8_7
    have h := h9_7
    clear h9_7
    exact f_r_function0_228 σ0 x1 σ h0 _ h
  · rw [if_neg hc] at h
    rcases Classical.em ((σ.1 106 45) ≤ 0) with hc | hc
    · rw [if_pos hc] at h
      obtain ⟨t9_8, h9_8, h8_8⟩ := Option.map_eq_some_iff.mp h
      clear h
      subst h8_8
      have h := h9_8
      clear h9_8
      exact f_r_function0_228 σ0 x1 σ h0 _ h
    · rw [if_neg hc] at h
      obtain ⟨hi, h⟩ := jx_ite0_inv h
      obtain ⟨hi, h⟩ := jx_ite0_inv h
      obtain ⟨hi, h⟩ := jx_ite0_inv h
      obtain ⟨q9, hq, h⟩ := Option.bind_eq_some_iff.mp h
      have f_q9 := jFr.step (jFr.i h0 (by decide)) (f_r_readOne (jx_i σ 106 45 ((σ.1 106 45) - (1 : Int32))) ((σ.1 138) (((σ.1 106 45) - (1 : Int32))).toNatClampNeg) ((σ.1 139) (((σ.1 106 45) - (1 : Int32))).toNatClampNeg) ((σ.1 140) (((σ.1 106 45) - (1 : Int32))).toNatClampNeg) (jx_i σ 106 45 ((σ.1 106 45) - (1 : Int32))) jFr.rfl q9 hq) (by decide +kernel) (by decide +kernel)
      have h9 := Option.some.inj h
      subst h9
      exact f_q9
theorem f_r_function0_170 (σ0 : jx_S) (x1 : Int32) (σ : jx_S) (h0 : jFr ms_r_function0 fs_r_function0 σ0 σ) (t : jx_S) (h : p_r_function0_170 x1 σ = some t) : fkV ms_r_function0 fs_r_function0 σ0 t := by
  refine jx_loop_ok (E := fun s t => jFr ms_r_function0 fs_r_function0 σ0 (s.2) → fkV ms_r_function0 fs_r_function0 σ0 t) (fun s t hs => ?_) _ _ _ h h0
  cases t with
  | inl s1 => exact fun b hb hf => hb (f_r_function0_170_s σ0 (s.1) (s.2) hf _ hs)
  | inr b => exact fun hf => f_r_function0_170_s σ0 (s.1) (s.2) hf _ hs
theorem f_r_function0_131 (σ0 : jx_S) (x1 : Int32) (σ : jx_S) (h0 : jFr ms_r_function0 fs_r_function0 σ0 σ) (t : jx_S) (h : p_r_function0_131 x1 σ = some t) : fkV ms_r_function0 fs_r_function0 σ0 t := by
  unfold p_r_function0_131 at h
  obtain ⟨q1, hq, h⟩ := Option.bind_eq_some_iff.mp h
  have f_q1 := jFr.step h0 (f_r_expect σ (18 : Int32) σ jFr.rfl q1 hq) (by decide +kernel) (by decide +kernel)
  obtain ⟨q2, hq, h⟩ := Option.bind_eq_some_iff.mp h
  have f_q2 := jFr.step f_q1 (f_r_baseType q1 q1 jFr.rfl q2 hq) (by decide +kernel) (by decide +kernel)
  obtain ⟨hi, h⟩ := jx_ite0_inv h
  obtain ⟨q3, hq, h⟩ := Option.bind_eq_some_iff.mp h
  have f_q3 := jFr.step (jFr.ia f_q2 (by decide)) (f_r_expect (jx_i q2.2 128 (x1).toNatClampNeg q2.1) (19 : Int32) (jx_i q2.2 128 (x1).toNatClampNeg q2.1) jFr.rfl q3 hq) (by decide +kernel) (by decide +kernel)
  obtain ⟨hi, h⟩ := jx_ite0_inv h
  obtain ⟨q4, hq, h⟩ := Option.bind_eq_some_iff.mp h
  have f_q4 := jFr.step (jFr.ia f_q3 (by decide)) (f_r_later (jx_i q3 132 (x1).toNatClampNeg (q3.1 106 25)) (1 : Int32) (0 : Int32) (0 : Int32) (jx_i q3 132 (x1).toNatClampNeg (q3.1 106 25)) jFr.rfl q4 hq) (by decide +kernel) (by decide +kernel)
  exact f_r_function0_170 σ0 x1 q4 f_q4 _ h
theorem f_r_function0_103_s (σ0 : jx_S) (x1 : Int32) (σ : jx_S) (h0 : jFr ms_r_function0 fs_r_function0 σ0 σ) (t : ((Int32 × jx_S) ⊕ jx_S)) (h : p_r_function0_103_s x1 σ = some t) : fk_r_function0_103 σ0 t := by
  unfold p_r_function0_103_s at h
  rcases Classical.em ((σ.1 106 41) = 0) with hc | hc
  · rw [if_pos hc] at h
    obtain ⟨t9_10, h9_10, h8_10⟩ := Option.map_eq_some_iff.mp h
    clear h
    subst h8_10
    have h := h9_10
    clear h9_10
    exact f_r_function0_131 σ0 x1 σ h0 _ h
  · rw [if_neg hc] at h
    obtain ⟨hi, h⟩ := jx_ite0_inv h
    rcases Classical.em (¬ ((σ.1 108) ((σ.1 106 40)).toNatClampNeg) = (16 : Int32)) with hc | hc
    · rw [if_pos hc] at h
      obtain ⟨t9_11, h9_11, h8_11⟩ := Option.map_eq_some_iff.mp h
      clear h
      subst h8_11
      have h := h9_11
      clear h9_11
      exact f_r_function0_131 σ0 x1 σ h0 _ h
    · rw [if_neg hc] at h
      obtain ⟨q12, hq, h⟩ := Option.bind_eq_some_iff.mp h
      have f_q12 := jFr.step h0 (f_r_parameter0 σ σ jFr.rfl q12 hq) (by decide +kernel) (by decide +kernel)
      have h9 := Option.some.inj h
      subst h9
      exact f_q12
theorem f_r_function0_103 (σ0 : jx_S) (x1 : Int32) (σ : jx_S) (h0 : jFr ms_r_function0 fs_r_function0 σ0 σ) (t : jx_S) (h : p_r_function0_103 x1 σ = some t) : fkV ms_r_function0 fs_r_function0 σ0 t := by
  refine jx_loop_ok (E := fun s t => jFr ms_r_function0 fs_r_function0 σ0 (s.2) → fkV ms_r_function0 fs_r_function0 σ0 t) (fun s t hs => ?_) _ _ _ h h0
  cases t with
  | inl s1 => exact fun b hb hf => hb (f_r_function0_103_s σ0 (s.1) (s.2) hf _ hs)
  | inr b => exact fun hf => f_r_function0_103_s σ0 (s.1) (s.2) hf _ hs
theorem f_r_function0 (σ0 : jx_S) (σ : jx_S) (h0 : jFr ms_r_function0 fs_r_function0 σ0 σ) (t : jx_S) (h : p_r_function0 σ = some t) : fkV ms_r_function0 fs_r_function0 σ0 t := by
  unfold p_r_function0 at h
  obtain ⟨hi, h⟩ := jx_ite0_inv h
  rcases Classical.em (((σ.1 108) ((σ.1 106 40)).toNatClampNeg) = (1 : Int32)) with hc | hc
  · rw [if_pos hc] at h
    rcases Classical.em (¬ (σ.1 106 38) = (40 : Int32)) with hc | hc
    · rw [if_pos hc] at h
      obtain ⟨hi, h⟩ := jx_ite0_inv h
      obtain ⟨hi, h⟩ := jx_ite0_inv h
      obtain ⟨hi, h⟩ := jx_ite0_inv h
      exact f_r_function0_103 σ0 (σ.1 106 38) (jx_i (jx_i (jx_i (jx_i (jx_i (jx_i (jx_i (jx_i (jx_i σ 126 ((σ.1 106 38)).toNatClampNeg (σ.1 106 40)) 127 ((σ.1 106 38)).toNatClampNeg (0 : Int32)) 130 ((σ.1 106 38)).toNatClampNeg (0 : Int32)) 106 49 (0 : Int32)) 106 52 (0 : Int32)) 106 48 (0 : Int32)) 106 45 (0 : Int32)) 106 47 (0 : Int32)) 106 40 ((σ.1 106 40) + (1 : Int32))) (jFr.i (jFr.i (jFr.i (jFr.i (jFr.i (jFr.i (jFr.ia (jFr.ia (jFr.ia h0 (by decide)) (by decide)) (by decide)) (by decide)) (by decide)) (by decide)) (by decide)) (by decide)) (by decide)) _ h
    · rw [if_neg hc] at h
      obtain ⟨q13, hq, h⟩ := Option.bind_eq_some_iff.mp h
      have f_q13 := jFr.step h0 (f_r_stop σ (4 : Int32) (σ.1 106 40) σ jFr.rfl q13 hq) (by decide +kernel) (by decide +kernel)
      have h9 := Option.some.inj h
      subst h9
      exact f_q13
  · rw [if_neg hc] at h
    obtain ⟨q14, hq, h⟩ := Option.bind_eq_some_iff.mp h
    have f_q14 := jFr.step h0 (f_r_stop σ (2 : Int32) (σ.1 106 40) σ jFr.rfl q14 hq) (by decide +kernel) (by decide +kernel)
    have h9 := Option.some.inj h
    subst h9
    exact f_q14
def ms_r_readAll : List Nat := [112, 113, 114, 115, 116, 117, 118, 119, 120, 121, 122, 123, 125, 126, 127, 128, 129, 130, 131, 132, 134, 135, 137, 138, 139, 140, 141, 142, 143]
def fs_r_readAll : List (Nat × Nat) := [(106, 4), (106, 5), (106, 25), (106, 38), (106, 40), (106, 41), (106, 45), (106, 47), (106, 48), (106, 49), (106, 52)]
def fk_r_readAll_20 (σ0 : jx_S) (t : ((jx_S) ⊕ (Int32 × jx_S))) : Prop := match t with
  | .inl s => jFr ms_r_readAll fs_r_readAll σ0 (s)
  | .inr t => fkI ms_r_readAll fs_r_readAll σ0 t
theorem f_r_readAll_20_s (σ0 : jx_S) (σ : jx_S) (h0 : jFr ms_r_readAll fs_r_readAll σ0 σ) (t : ((jx_S) ⊕ (Int32 × jx_S))) (h : p_r_readAll_20_s σ = some t) : fk_r_readAll_20 σ0 t := by
  unfold p_r_readAll_20_s at h
  rcases Classical.em ((σ.1 106 41) = 0) with hc | hc
  · rw [if_pos hc] at h
    obtain ⟨t9_1, h9_1, h8_1⟩ := Option.map_eq_some_iff.mp h
    clear h
    subst h8_1
    have h := h9_1
    clear h9_1
    obtain ⟨hb, h⟩ := jx_ite_inv h
    have h9 := Option.some.inj h
    subst h9
    exact h0
  · rw [if_neg hc] at h
    obtain ⟨hi, h⟩ := jx_ite0_inv h
    rcases Classical.em (((σ.1 108) ((σ.1 106 40)).toNatClampNeg) = (28 : Int32)) with hc | hc
    · rw [if_pos hc] at h
      obtain ⟨t9_2, h9_2, h8_2⟩ := Option.map_eq_some_iff.mp h
      clear h
      subst h8_2
      have h := h9_2
      clear h9_2
      obtain ⟨hb, h⟩ := jx_ite_inv h
      have h9 := Option.some.inj h
      subst h9
      exact h0
    · rw [if_neg hc] at h
      obtain ⟨q3, hq, h⟩ := Option.bind_eq_some_iff.mp h
      have f_q3 := jFr.step h0 (f_r_function0 σ σ jFr.rfl q3 hq) (by decide +kernel) (by decide +kernel)
      have h9 := Option.some.inj h
      subst h9
      exact f_q3
theorem f_r_readAll_20 (σ0 : jx_S) (σ : jx_S) (h0 : jFr ms_r_readAll fs_r_readAll σ0 σ) (t : (Int32 × jx_S)) (h : p_r_readAll_20 σ = some t) : fkI ms_r_readAll fs_r_readAll σ0 t := by
  refine jx_loop_ok (E := fun s t => jFr ms_r_readAll fs_r_readAll σ0 (s) → fkI ms_r_readAll fs_r_readAll σ0 t) (fun s t hs => ?_) _ _ _ h h0
  cases t with
  | inl s1 => exact fun b hb hf => hb (f_r_readAll_20_s σ0 (s) hf _ hs)
  | inr b => exact fun hf => f_r_readAll_20_s σ0 (s) hf _ hs
theorem f_r_readAll (σ0 : jx_S) (σ : jx_S) (h0 : jFr ms_r_readAll fs_r_readAll σ0 σ) (t : (Int32 × jx_S)) (h : p_r_readAll σ = some t) : fkI ms_r_readAll fs_r_readAll σ0 t := by
  unfold p_r_readAll at h
  exact f_r_readAll_20 σ0 (jx_i (jx_i (jx_i (jx_i σ 106 40 (0 : Int32)) 106 25 (0 : Int32)) 106 38 (0 : Int32)) 106 41 (1 : Int32)) (jFr.i (jFr.i (jFr.i (jFr.i h0 (by decide)) (by decide)) (by decide)) (by decide)) _ h
