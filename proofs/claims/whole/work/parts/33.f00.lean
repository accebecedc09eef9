def ms_cl_forget : List Nat := [71]
def fs_cl_forget : List (Nat × Nat) := [(0, 11), (0, 12)]
theorem f_cl_forget (σ0 : jx_S) (σ : jx_S) (h0 : jFr ms_cl_forget fs_cl_forget σ0 σ) (t : jx_S) (h : p_cl_forget σ = some t) : fkV ms_cl_forget fs_cl_forget σ0 t := by
  unfold p_cl_forget at h
  have h9 := Option.some.inj h
  subst h9
  exact (jFr.c (jFr.i (jFr.i h0 (by decide)) (by decide)) (by decide))
def ms_cl_feed : List Nat := [11, 71]
def fs_cl_feed : List (Nat × Nat) := [(0, 10), (0, 11), (0, 12)]
def fk_cl_feed_36 (σ0 : jx_S) (t : ((Int32 × Int64 × Int32 × jx_S) ⊕ (Int32 × jx_S))) : Prop := match t with
  | .inl s => jFr ms_cl_feed fs_cl_feed σ0 (s.2.2.2)
  | .inr t => fkI ms_cl_feed fs_cl_feed σ0 t
theorem f_cl_feed_36_s (σ0 : jx_S) (x1 : Int32) (x2 : Int64) (x4 : Int32) (σ : jx_S) (h0 : jFr ms_cl_feed fs_cl_feed σ0 σ) (t : ((Int32 × Int64 × Int32 × jx_S) ⊕ (Int32 × jx_S))) (h : p_cl_feed_36_s x1 x2 x4 σ = some t) : fk_cl_feed_36 σ0 t := by
  unfold p_cl_feed_36_s at h
  rcases Classical.em (x1 ≤ x4) with hc | hc
  · rw [if_pos hc] at h
    obtain ⟨t9_2, h9_2, h8_2⟩ := Option.map_eq_some_iff.mp h
    clear h
    subst h8_2
    have h := h9_2
    clear h9_2
    obtain ⟨q1, hq, h⟩ := Option.bind_eq_some_iff.mp h
    have f_q1 := jFr.step (jFr.i h0 (by decide)) (f_cl_forget (jx_i σ 0 10 ((σ.1 0 10) + x1)) (jx_i σ 0 10 ((σ.1 0 10) + x1)) jFr.rfl q1 hq) (by decide +kernel) (by decide +kernel)
    have h9 := Option.some.inj h
    subst h9
    exact f_q1
  · rw [if_neg hc] at h
    have h9 := Option.some.inj h
    subst h9
    exact (jFr.ip h0 (by decide))
theorem f_cl_feed_36 (σ0 : jx_S) (x1 : Int32) (x2 : Int64) (x4 : Int32) (σ : jx_S) (h0 : jFr ms_cl_feed fs_cl_feed σ0 σ) (t : (Int32 × jx_S)) (h : p_cl_feed_36 x1 x2 x4 σ = some t) : fkI ms_cl_feed fs_cl_feed σ0 t := by
  refine jx_loop_ok (E := fun s t => jFr ms_cl_feed fs_cl_feed σ0 (s.2.2.2) → fkI ms_cl_feed fs_cl_feed σ0 t) (fun s t hs => ?_) _ _ _ h h0
  cases t with
  | inl s1 => exact fun b hb hf => hb (f_cl_feed_36_s σ0 (s.1) (s.2.1) (s.2.2.1) (s.2.2.2) hf _ hs)
  | inr b => exact fun hf => f_cl_feed_36_s σ0 (s.1) (s.2.1) (s.2.2.1) (s.2.2.2) hf _ hs
theorem f_cl_feed (σ0 : jx_S) (x1 : Int32) (x2 : Int64) (σ : jx_S) (h0 : jFr ms_cl_feed fs_cl_feed σ0 σ) (t : (Int32 × jx_S)) (h : p_cl_feed x1 x2 σ = some t) : fkI ms_cl_feed fs_cl_feed σ0 t := by
  unfold p_cl_feed at h
  rcases Classical.em (x1 < (1 : Int32)) with hc | hc
  · rw [if_pos hc] at h
    cases h
  · rw [if_neg hc] at h
    rcases Classical.em ((8 : Int32) < x1) with hc | hc
    · rw [if_pos hc] at h
      cases h
    · rw [if_neg hc] at h
      rcases Classical.em (((σ.1 0 10) + x1) ≤ (4000 : Int32)) with hc | hc
      · rw [if_pos hc] at h
        exact f_cl_feed_36 σ0 x1 x2 (0 : Int32) σ h0 _ h
      · rw [if_neg hc] at h
        cases h
def ms_cl_wipe : List Nat := [71]
def fs_cl_wipe : List (Nat × Nat) := [(0, 10), (0, 11), (0, 12)]
theorem f_cl_wipe (σ0 : jx_S) (σ : jx_S) (h0 : jFr ms_cl_wipe fs_cl_wipe σ0 σ) (t : (Int32 × jx_S)) (h : p_cl_wipe σ = some t) : fkI ms_cl_wipe fs_cl_wipe σ0 t := by
  unfold p_cl_wipe at h
  obtain ⟨q1, hq, h⟩ := Option.bind_eq_some_iff.mp h
  have f_q1 := jFr.step (jFr.i h0 (by decide)) (f_cl_forget (jx_i σ 0 10 (0 : Int32)) (jx_i σ 0 10 (0 : Int32)) jFr.rfl q1 hq) (by decide +kernel) (by decide +kernel)
  have h9 := Option.some.inj h
  subst h9
  exact f_q1
def ms_cFau_clear : List Nat := []
def fs_cFau_clear : List (Nat × Nat) := [(1, 0), (1, 1)]
theorem f_cFau_clear (σ0 : jx_S) (σ : jx_S) (h0 : jFr ms_cFau_clear fs_cFau_clear σ0 σ) (t : jx_S) (h : p_cFau_clear σ = some t) : fkV ms_cFau_clear fs_cFau_clear σ0 t := by
  unfold p_cFau_clear at h
  have h9 := Option.some.inj h
  subst h9
  exact (jFr.i (jFr.i h0 (by decide)) (by decide))
def ms_cFau_tell : List Nat := []
def fs_cFau_tell : List (Nat × Nat) := [(1, 0), (1, 1)]
theorem f_cFau_tell (σ0 : jx_S) (x1 : Int32) (x2 : Int32) (σ : jx_S) (h0 : jFr ms_cFau_tell fs_cFau_tell σ0 σ) (t : jx_S) (h : p_cFau_tell x1 x2 σ = some t) : fkV ms_cFau_tell fs_cFau_tell σ0 t := by
  unfold p_cFau_tell at h
  rcases Classical.em (¬ (σ.1 1 0) = 0) with hc | hc
  · rw [if_pos hc] at h
    have h9 := Option.some.inj h
    subst h9
    exact h0
  · rw [if_neg hc] at h
    have h9 := Option.some.inj h
    subst h9
    exact (jFr.i (jFr.i h0 (by decide)) (by decide))
def ms_cTok_add : List Nat := [15, 17, 19]
def fs_cTok_add : List (Nat × Nat) := [(2, 4)]
theorem f_cTok_add (σ0 : jx_S) (x1 : Int32) (x2 : Int32) (x3 : Int64) (σ : jx_S) (h0 : jFr ms_cTok_add fs_cTok_add σ0 σ) (t : jx_S) (h : p_cTok_add x1 x2 x3 σ = some t) : fkV ms_cTok_add fs_cTok_add σ0 t := by
  unfold p_cTok_add at h
  have h9 := Option.some.inj h
  subst h9
  exact (jFr.i (jFr.lp (jFr.ip (jFr.ip h0 (by decide)) (by decide)) (by decide)) (by decide))
def ms_cTok_readSign : List Nat := [15, 17, 19]
def fs_cTok_readSign : List (Nat × Nat) := [(1, 0), (1, 1), (2, 4)]
theorem f_cTok_readSign_45 (σ0 : jx_S) (x3 : Int32) (x5 : Int32) (σ : jx_S) (h0 : jFr ms_cTok_readSign fs_cTok_readSign σ0 σ) (t : (Int32 × jx_S)) (h : p_cTok_readSign_45 x3 x5 σ = some t) : fkI ms_cTok_readSign fs_cTok_readSign σ0 t := by
  unfold p_cTok_readSign_45 at h
  rcases Classical.em (¬ (v_cTok_signKind x5 σ) = 0) with hc | hc
  · rw [if_pos hc] at h
    obtain ⟨q1, hq, h⟩ := Option.bind_eq_some_iff.mp h
    have f_q1 := jFr.step h0 (f_cTok_add σ (v_cTok_signKind x5 σ) x3 (0 : Int64) σ jFr.rfl q1 hq) (by decide +kernel) (by decide +kernel)
    have h9 := Option.some.inj h
    subst h9
    exact f_q1
  · rw [if_neg hc] at h
    obtain ⟨q2, hq, h⟩ := Option.bind_eq_some_iff.mp h
    have f_q2 := jFr.step h0 (f_cFau_tell σ (1 : Int32) x3 σ jFr.rfl q2 hq) (by decide +kernel) (by decide +kernel)
    have h9 := Option.some.inj h
    subst h9
    exact f_q2
theorem f_cTok_readSign (σ0 : jx_S) (x2 : Int32) (x3 : Int32) (σ : jx_S) (h0 : jFr ms_cTok_readSign fs_cTok_readSign σ0 σ) (t : (Int32 × jx_S)) (h : p_cTok_readSign x2 x3 σ = some t) : fkI ms_cTok_readSign fs_cTok_readSign σ0 t := by
  unfold p_cTok_readSign at h
  rcases Classical.em (¬ (jI_at 4000 (σ.1 11) x3) = (45 : Int32)) with hc | hc
  · rw [if_pos hc] at h
    exact f_cTok_readSign_45 σ0 x3 (jI_at 4000 (σ.1 11) x3) σ h0 _ h
  · rw [if_neg hc] at h
    rcases Classical.em (x2 ≤ (x3 + (1 : Int32))) with hc | hc
    · rw [if_pos hc] at h
      exact f_cTok_readSign_45 σ0 x3 (jI_at 4000 (σ.1 11) x3) σ h0 _ h
    · rw [if_neg hc] at h
      rcases Classical.em (¬ (jI_at 4000 (σ.1 11) (x3 + (1 : Int32))) = (62 : Int32)) with hc | hc
      · rw [if_pos hc] at h
        exact f_cTok_readSign_45 σ0 x3 (jI_at 4000 (σ.1 11) x3) σ h0 _ h
      · rw [if_neg hc] at h
        obtain ⟨q3, hq, h⟩ := Option.bind_eq_some_iff.mp h
        have f_q3 := jFr.step h0 (f_cTok_add σ (21 : Int32) x3 (0 : Int64) σ jFr.rfl q3 hq) (by decide +kernel) (by decide +kernel)
        have h9 := Option.some.inj h
        subst h9
        exact f_q3
def ms_cTok_readNumber : List Nat := [15, 17, 19]
def fs_cTok_readNumber : List (Nat × Nat) := [(1, 0), (1, 1), (2, 4)]
def fk_cTok_readNumber_9 (σ0 : jx_S) (t : ((Int32 × Int32 × Int64 × Int32 × Int32 × jx_S) ⊕ (Int32 × jx_S))) : Prop := match t with
  | .inl s => jFr ms_cTok_readNumber fs_cTok_readNumber σ0 (s.2.2.2.2.2)
  | .inr t => fkI ms_cTok_readNumber fs_cTok_readNumber σ0 t
theorem f_cTok_readNumber_65 (σ0 : jx_S) (x3 : Int32) (x5 : Int64) (x7 : Int32) (σ : jx_S) (h0 : jFr ms_cTok_readNumber fs_cTok_readNumber σ0 σ) (t : (Int32 × jx_S)) (h : p_cTok_readNumber_65 x3 x5 x7 σ = some t) : fkI ms_cTok_readNumber fs_cTok_readNumber σ0 t := by
  unfold p_cTok_readNumber_65 at h
  rcases Classical.em ((lg_cmp x5 (2147483647 : Int64)) ≤ 0) with hc | hc
  · rw [if_pos hc] at h
    obtain ⟨q1, hq, h⟩ := Option.bind_eq_some_iff.mp h
    have f_q1 := jFr.step h0 (f_cTok_add σ (2 : Int32) x3 x5 σ jFr.rfl q1 hq) (by decide +kernel) (by decide +kernel)
    have h9 := Option.some.inj h
    subst h9
    exact f_q1
  · rw [if_neg hc] at h
    obtain ⟨q2, hq, h⟩ := Option.bind_eq_some_iff.mp h
    have f_q2 := jFr.step h0 (f_cFau_tell σ (1 : Int32) x3 σ jFr.rfl q2 hq) (by decide +kernel) (by decide +kernel)
    have h9 := Option.some.inj h
    subst h9
    exact f_q2
theorem f_cTok_readNumber_9_s (σ0 : jx_S) (x2 : Int32) (x3 : Int32) (x5 : Int64) (x7 : Int32) (x8 : Int32) (σ : jx_S) (h0 : jFr ms_cTok_readNumber fs_cTok_readNumber σ0 σ) (t : ((Int32 × Int32 × Int64 × Int32 × Int32 × jx_S) ⊕ (Int32 × jx_S))) (h : p_cTok_readNumber_9_s x2 x3 x5 x7 x8 σ = some t) : fk_cTok_readNumber_9 σ0 t := by
  unfold p_cTok_readNumber_9_s at h
  rcases Classical.em (x2 ≤ x8) with hc | hc
  · rw [if_pos hc] at h
    obtain ⟨t9_3, h9_3, h8_3⟩ := Option.map_eq_some_iff.mp h
    clear h
    subst h8_3
    have h := h9_3
    clear h9_3
    exact f_cTok_readNumber_65 σ0 x3 x5 x7 σ h0 _ h
  · rw [if_neg hc] at h
    rcases Classical.em ((v_cTok_isDigit (jI_at 4000 (σ.1 11) x8) σ) = 0) with hc | hc
    · rw [if_pos hc] at h
      obtain ⟨t9_4, h9_4, h8_4⟩ := Option.map_eq_some_iff.mp h
      clear h
      subst h8_4
      have h := h9_4
      clear h9_4
      exact f_cTok_readNumber_65 σ0 x3 x5 x7 σ h0 _ h
    · rw [if_neg hc] at h
      have h9 := Option.some.inj h
      subst h9
      exact h0
theorem f_cTok_readNumber_9 (σ0 : jx_S) (x2 : Int32) (x3 : Int32) (x5 : Int64) (x7 : Int32) (x8 : Int32) (σ : jx_S) (h0 : jFr ms_cTok_readNumber fs_cTok_readNumber σ0 σ) (t : (Int32 × jx_S)) (h : p_cTok_readNumber_9 x2 x3 x5 x7 x8 σ = some t) : fkI ms_cTok_readNumber fs_cTok_readNumber σ0 t := by
  refine jx_loop_ok (E := fun s t => jFr ms_cTok_readNumber fs_cTok_readNumber σ0 (s.2.2.2.2.2) → fkI ms_cTok_readNumber fs_cTok_readNumber σ0 t) (fun s t hs => ?_) _ _ _ h h0
  cases t with
  | inl s1 => exact fun b hb hf => hb (f_cTok_readNumber_9_s σ0 (s.1) (s.2.1) (s.2.2.1) (s.2.2.2.1) (s.2.2.2.2.1) (s.2.2.2.2.2) hf _ hs)
  | inr b => exact fun hf => f_cTok_readNumber_9_s σ0 (s.1) (s.2.1) (s.2.2.1) (s.2.2.2.1) (s.2.2.2.2.1) (s.2.2.2.2.2) hf _ hs
theorem f_cTok_readNumber (σ0 : jx_S) (x2 : Int32) (x3 : Int32) (σ : jx_S) (h0 : jFr ms_cTok_readNumber fs_cTok_readNumber σ0 σ) (t : (Int32 × jx_S)) (h : p_cTok_readNumber x2 x3 σ = some t) : fkI ms_cTok_readNumber fs_cTok_readNumber σ0 t := by
  unfold p_cTok_readNumber at h
  exact f_cTok_readNumber_9 σ0 x2 x3 (0 : Int64) x3 x3 σ h0 _ h
def ms_cTok_wordOrName : List Nat := []
def fs_cTok_wordOrName : List (Nat × Nat) := []
def fk_cTok_wordOrName_2 (σ0 : jx_S) (t : ((Int64 × Int32 × jx_S) ⊕ (Int32 × jx_S))) : Prop := match t with
  | .inl s => jFr ms_cTok_wordOrName fs_cTok_wordOrName σ0 (s.2.2)
  | .inr t => fkI ms_cTok_wordOrName fs_cTok_wordOrName σ0 t
theorem f_cTok_wordOrName_2_s (σ0 : jx_S) (x1 : Int64) (x3 : Int32) (σ : jx_S) (h0 : jFr ms_cTok_wordOrName fs_cTok_wordOrName σ0 σ) (t : ((Int64 × Int32 × jx_S) ⊕ (Int32 × jx_S))) (h : p_cTok_wordOrName_2_s x1 x3 σ = some t) : fk_cTok_wordOrName_2 σ0 t := by
  unfold p_cTok_wordOrName_2_s at h
  rcases Classical.em ((15 : Int32) < x3) with hc | hc
  · rw [if_pos hc] at h
    obtain ⟨t9_1, h9_1, h8_1⟩ := Option.map_eq_some_iff.mp h
    clear h
    subst h8_1
    have h := h9_1
    clear h9_1
    have h9 := Option.some.inj h
    subst h9
    exact h0
  · rw [if_neg hc] at h
    rcases Classical.em (¬ (lg_cmp (jL_at 16 (σ.2 21) x3) x1) = 0) with hc | hc
    · rw [if_pos hc] at h
      have h9 := Option.some.inj h
      subst h9
      exact h0
    · rw [if_neg hc] at h
      obtain ⟨t9_2, h9_2, h8_2⟩ := Option.map_eq_some_iff.mp h
      clear h
      subst h8_2
      have h := h9_2
      clear h9_2
      have h9 := Option.some.inj h
      subst h9
      exact h0
theorem f_cTok_wordOrName_2 (σ0 : jx_S) (x1 : Int64) (x3 : Int32) (σ : jx_S) (h0 : jFr ms_cTok_wordOrName fs_cTok_wordOrName σ0 σ) (t : (Int32 × jx_S)) (h : p_cTok_wordOrName_2 x1 x3 σ = some t) : fkI ms_cTok_wordOrName fs_cTok_wordOrName σ0 t := by
  refine jx_loop_ok (E := fun s t => jFr ms_cTok_wordOrName fs_cTok_wordOrName σ0 (s.2.2) → fkI ms_cTok_wordOrName fs_cTok_wordOrName σ0 t) (fun s t hs => ?_) _ _ _ h h0
  cases t with
  | inl s1 => exact fun b hb hf => hb (f_cTok_wordOrName_2_s σ0 (s.1) (s.2.1) (s.2.2) hf _ hs)
  | inr b => exact fun hf => f_cTok_wordOrName_2_s σ0 (s.1) (s.2.1) (s.2.2) hf _ hs
theorem f_cTok_wordOrName (σ0 : jx_S) (x1 : Int64) (σ : jx_S) (h0 : jFr ms_cTok_wordOrName fs_cTok_wordOrName σ0 σ) (t : (Int32 × jx_S)) (h : p_cTok_wordOrName x1 σ = some t) : fkI ms_cTok_wordOrName fs_cTok_wordOrName σ0 t := by
  unfold p_cTok_wordOrName at h
  exact f_cTok_wordOrName_2 σ0 x1 (3 : Int32) σ h0 _ h
def ms_cTok_readName : List Nat := [15, 17, 19]
def fs_cTok_readName : List (Nat × Nat) := [(1, 0), (1, 1), (2, 4)]
def fk_cTok_readName_9 (σ0 : jx_S) (t : ((Int32 × Int32 × Int64 × Int32 × Int32 × jx_S) ⊕ (Int32 × jx_S))) : Prop := match t with
  | .inl s => jFr ms_cTok_readName fs_cTok_readName σ0 (s.2.2.2.2.2)
  | .inr t => fkI ms_cTok_readName fs_cTok_readName σ0 t
theorem f_cTok_readName_58 (σ0 : jx_S) (x3 : Int32) (x5 : Int64) (x7 : Int32) (σ : jx_S) (h0 : jFr ms_cTok_readName fs_cTok_readName σ0 σ) (t : (Int32 × jx_S)) (h : p_cTok_readName_58 x3 x5 x7 σ = some t) : fkI ms_cTok_readName fs_cTok_readName σ0 t := by
  unfold p_cTok_readName_58 at h
  rcases Classical.em ((x7 - x3) ≤ (12 : Int32)) with hc | hc
  · rw [if_pos hc] at h
    obtain ⟨q1, hq, h⟩ := Option.bind_eq_some_iff.mp h
    have f_q1 := jFr.step h0 (f_cTok_wordOrName σ x5 σ jFr.rfl q1 hq) (by decide +kernel) (by decide +kernel)
    obtain ⟨q2, hq, h⟩ := Option.bind_eq_some_iff.mp h
    have f_q2 := jFr.step f_q1 (f_cTok_add q1.2 q1.1 x3 x5 q1.2 jFr.rfl q2 hq) (by decide +kernel) (by decide +kernel)
    have h9 := Option.some.inj h
    subst h9
    exact f_q2
  · rw [if_neg hc] at h
    obtain ⟨q3, hq, h⟩ := Option.bind_eq_some_iff.mp h
    have f_q3 := jFr.step h0 (f_cFau_tell σ (1 : Int32) x3 σ jFr.rfl q3 hq) (by decide +kernel) (by decide +kernel)
    have h9 := Option.some.inj h
    subst h9
    exact f_q3
theorem f_cTok_readName_9_s (σ0 : jx_S) (x2 : Int32) (x3 : Int32) (x5 : Int64) (x7 : Int32) (x8 : Int32) (σ : jx_S) (h0 : jFr ms_cTok_readName fs_cTok_readName σ0 σ) (t : ((Int32 × Int32 × Int64 × Int32 × Int32 × jx_S) ⊕ (Int32 × jx_S))) (h : p_cTok_readName_9_s x2 x3 x5 x7 x8 σ = some t) : fk_cTok_readName_9 σ0 t := by
  unfold p_cTok_readName_9_s at h
  rcases Classical.em (x2 ≤ x8) with hc | hc
  · rw [if_pos hc] at h
    obtain ⟨t9_4, h9_4, h8_4⟩ := Option.map_eq_some_iff.mp h
    clear h
    subst h8_4
    have h := h9_4
    clear h9_4
    exact f_cTok_readName_58 σ0 x3 x5 x7 σ h0 _ h
  · rw [if_neg hc] at h
    rcases Classical.em ((v_cTok_letterCode (jI_at 4000 (σ.1 11) x8) σ) = 0) with hc | hc
    · rw [if_pos hc] at h
      obtain ⟨t9_5, h9_5, h8_5⟩ := Option.map_eq_some_iff.mp h
      clear h
      subst h8_5
      have h := h9_5
      clear h9_5
      exact f_cTok_readName_58 σ0 x3 x5 x7 σ h0 _ h
    · rw [if_neg hc] at h
      have h9 := Option.some.inj h
      subst h9
      exact h0
theorem f_cTok_readName_9 (σ0 : jx_S) (x2 : Int32) (x3 : Int32) (x5 : Int64) (x7 : Int32) (x8 : Int32) (σ : jx_S) (h0 : jFr ms_cTok_readName fs_cTok_readName σ0 σ) (t : (Int32 × jx_S)) (h : p_cTok_readName_9 x2 x3 x5 x7 x8 σ = some t) : fkI ms_cTok_readName fs_cTok_readName σ0 t := by
  refine jx_loop_ok (E := fun s t => jFr ms_cTok_readName fs_cTok_readName σ0 (s.2.2.2.2.2) → fkI ms_cTok_readName fs_cTok_readName σ0 t) (fun s t hs => ?_) _ _ _ h h0
  cases t with
  | inl s1 => exact fun b hb hf => hb (f_cTok_readName_9_s σ0 (s.1) (s.2.1) (s.2.2.1) (s.2.2.2.1) (s.2.2.2.2.1) (s.2.2.2.2.2) hf _ hs)
  | inr b => exact fun hf => f_cTok_readName_9_s σ0 (s.1) (s.2.1) (s.2.2.1) (s.2.2.2.1) (s.2.2.2.2.1) (s.2.2.2.2.2) hf _ hs
theorem f_cTok_readName (σ0 : jx_S) (x2 : Int32) (x3 : Int32) (σ : jx_S) (h0 : jFr ms_cTok_readName fs_cTok_readName σ0 σ) (t : (Int32 × jx_S)) (h : p_cTok_readName x2 x3 σ = some t) : fkI ms_cTok_readName fs_cTok_readName σ0 t := by
  unfold p_cTok_readName at h
  exact f_cTok_readName_9 σ0 x2 x3 (0 : Int64) x3 x3 σ h0 _ h
def ms_cTok_readToken : List Nat := [15, 17, 19]
def fs_cTok_readToken : List (Nat × Nat) := [(1, 0), (1, 1), (2, 4)]
theorem f_cTok_readToken (σ0 : jx_S) (x2 : Int32) (x3 : Int32) (σ : jx_S) (h0 : jFr ms_cTok_readToken fs_cTok_readToken σ0 σ) (t : (Int32 × jx_S)) (h : p_cTok_readToken x2 x3 σ = some t) : fkI ms_cTok_readToken fs_cTok_readToken σ0 t := by
  unfold p_cTok_readToken at h
  rcases Classical.em (¬ (v_cTok_letterCode (jI_at 4000 (σ.1 11) x3) σ) = 0) with hc | hc
  · rw [if_pos hc] at h
    rcases Classical.em ((v_cTok_isDigit (jI_at 4000 (σ.1 11) x3) σ) = 0) with hc | hc
    · rw [if_pos hc] at h
      obtain ⟨q1, hq, h⟩ := Option.bind_eq_some_iff.mp h
      have f_q1 := jFr.step h0 (f_cTok_readName σ x2 x3 σ jFr.rfl q1 hq) (by decide +kernel) (by decide +kernel)
      have h9 := Option.some.inj h
      subst h9
      exact f_q1
    · rw [if_neg hc] at h
      obtain ⟨q2, hq, h⟩ := Option.bind_eq_some_iff.mp h
      have f_q2 := jFr.step h0 (f_cTok_readNumber σ x2 x3 σ jFr.rfl q2 hq) (by decide +kernel) (by decide +kernel)
      have h9 := Option.some.inj h
      subst h9
      exact f_q2
  · rw [if_neg hc] at h
    obtain ⟨q3, hq, h⟩ := Option.bind_eq_some_iff.mp h
    have f_q3 := jFr.step h0 (f_cTok_readSign σ x2 x3 σ jFr.rfl q3 hq) (by decide +kernel) (by decide +kernel)
    have h9 := Option.some.inj h
    subst h9
    exact f_q3
def ms_cTok_split : List Nat := [15, 17, 19]
def fs_cTok_split : List (Nat × Nat) := [(1, 0), (1, 1), (2, 4)]
def fk_cTok_split_11 (σ0 : jx_S) (t : ((Int32 × Int32 × Int32 × jx_S) ⊕ jx_S)) : Prop := match t with
  | .inl s => jFr ms_cTok_split fs_cTok_split σ0 (s.2.2.2)
  | .inr t => fkV ms_cTok_split fs_cTok_split σ0 t
theorem f_cTok_split_97 (σ0 : jx_S) (x2 : Int32) (σ : jx_S) (h0 : jFr ms_cTok_split fs_cTok_split σ0 σ) (t : jx_S) (h : p_cTok_split_97 x2 σ = some t) : fkV ms_cTok_split fs_cTok_split σ0 t := by
  unfold p_cTok_split_97 at h
  have h9 := Option.some.inj h
  subst h9
  exact (jFr.ip (jFr.ip h0 (by decide)) (by decide))
theorem f_cTok_split_91 (σ0 : jx_S) (x2 : Int32) (x4 : Int32) (x5 : Int32) (σ : jx_S) (h0 : jFr ms_cTok_split fs_cTok_split σ0 σ) (t : ((Int32 × Int32 × Int32 × jx_S) ⊕ jx_S)) (h : p_cTok_split_91 x2 x4 x5 σ = some t) : fk_cTok_split_11 σ0 t := by
  unfold p_cTok_split_91 at h
  have h9 := Option.some.inj h
  subst h9
  exact h0
theorem f_cTok_split_54 (σ0 : jx_S) (x2 : Int32) (x4 : Int32) (x5 : Int32) (σ : jx_S) (h0 : jFr ms_cTok_split fs_cTok_split σ0 σ) (t : ((Int32 × Int32 × Int32 × jx_S) ⊕ jx_S)) (h : p_cTok_split_54 x2 x4 x5 σ = some t) : fk_cTok_split_11 σ0 t := by
  unfold p_cTok_split_54 at h
  exact f_cTok_split_91 σ0 x2 (x4 + 1) x5 σ h0 _ h
theorem f_cTok_split_11_s (σ0 : jx_S) (x2 : Int32) (x4 : Int32) (x5 : Int32) (σ : jx_S) (h0 : jFr ms_cTok_split fs_cTok_split σ0 σ) (t : ((Int32 × Int32 × Int32 × jx_S) ⊕ jx_S)) (h : p_cTok_split_11_s x2 x4 x5 σ = some t) : fk_cTok_split_11 σ0 t := by
  unfold p_cTok_split_11_s at h
  rcases Classical.em ((4000 : Int32) ≤ x5) with hc | hc
  · rw [if_pos hc] at h
    obtain ⟨t9_1, h9_1, h8_1⟩ := Option.map_eq_some_iff.mp h
    clear h
    subst h8_1
    have h := h9_1
    clear h9_1
    exact f_cTok_split_97 σ0 x2 σ h0 _ h
  · rw [if_neg hc] at h
    rcases Classical.em (x2 ≤ x4) with hc | hc
    · rw [if_pos hc] at h
      obtain ⟨t9_2, h9_2, h8_2⟩ := Option.map_eq_some_iff.mp h
      clear h
      subst h8_2
      have h := h9_2
      clear h9_2
      exact f_cTok_split_97 σ0 x2 σ h0 _ h
    · rw [if_neg hc] at h
      rcases Classical.em (¬ (v_cFau_isTold σ) = 0) with hc | hc
      · rw [if_pos hc] at h
        obtain ⟨t9_3, h9_3, h8_3⟩ := Option.map_eq_some_iff.mp h
        clear h
        subst h8_3
        have h := h9_3
        clear h9_3
        exact f_cTok_split_97 σ0 x2 σ h0 _ h
      · rw [if_neg hc] at h
        rcases Classical.em ((jI_at 4000 (σ.1 11) x4) = (32 : Int32)) with hc | hc
        · rw [if_pos hc] at h
          exact f_cTok_split_54 σ0 x2 x4 x5 σ h0 _ h
        · rw [if_neg hc] at h
          rcases Classical.em (¬ (jI_at 4000 (σ.1 11) x4) = (10 : Int32)) with hc | hc
          · rw [if_pos hc] at h
            rcases Classical.em (¬ (σ.1 2 4) = (1200 : Int32)) with hc | hc
            · rw [if_pos hc] at h
              obtain ⟨q4, hq, h⟩ := Option.bind_eq_some_iff.mp h
              have f_q4 := jFr.step h0 (f_cTok_readToken σ x2 x4 σ jFr.rfl q4 hq) (by decide +kernel) (by decide +kernel)
              exact f_cTok_split_91 σ0 x2 q4.1 x5 q4.2 f_q4 _ h
            · rw [if_neg hc] at h
              obtain ⟨q5, hq, h⟩ := Option.bind_eq_some_iff.mp h
              have f_q5 := jFr.step h0 (f_cFau_tell σ (1 : Int32) x4 σ jFr.rfl q5 hq) (by decide +kernel) (by decide +kernel)
              exact f_cTok_split_91 σ0 x2 x4 x5 q5 f_q5 _ h
          · rw [if_neg hc] at h
            exact f_cTok_split_54 σ0 x2 x4 x5 σ h0 _ h
theorem f_cTok_split_11 (σ0 : jx_S) (x2 : Int32) (x4 : Int32) (x5 : Int32) (σ : jx_S) (h0 : jFr ms_cTok_split fs_cTok_split σ0 σ) (t : jx_S) (h : p_cTok_split_11 x2 x4 x5 σ = some t) : fkV ms_cTok_split fs_cTok_split σ0 t := by
  refine jx_loop_ok (E := fun s t => jFr ms_cTok_split fs_cTok_split σ0 (s.2.2.2) → fkV ms_cTok_split fs_cTok_split σ0 t) (fun s t hs => ?_) _ _ _ h h0
  cases t with
  | inl s1 => exact fun b hb hf => hb (f_cTok_split_11_s σ0 (s.1) (s.2.1) (s.2.2.1) (s.2.2.2) hf _ hs)
  | inr b => exact fun hf => f_cTok_split_11_s σ0 (s.1) (s.2.1) (s.2.2.1) (s.2.2.2) hf _ hs
theorem f_cTok_split (σ0 : jx_S) (x2 : Int32) (σ : jx_S) (h0 : jFr ms_cTok_split fs_cTok_split σ0 σ) (t : jx_S) (h : p_cTok_split x2 σ = some t) : fkV ms_cTok_split fs_cTok_split σ0 t := by
  unfold p_cTok_split at h
  exact f_cTok_split_11 σ0 x2 (0 : Int32) (0 : Int32) (jx_i σ 2 4 (0 : Int32)) (jFr.i h0 (by decide)) _ h
def ms_cRea_tell : List Nat := []
def fs_cRea_tell : List (Nat × Nat) := [(1, 0), (1, 1)]
theorem f_cRea_tell (σ0 : jx_S) (x1 : Int32) (σ : jx_S) (h0 : jFr ms_cRea_tell fs_cRea_tell σ0 σ) (t : jx_S) (h : p_cRea_tell x1 σ = some t) : fkV ms_cRea_tell fs_cRea_tell σ0 t := by
  unfold p_cRea_tell at h
  obtain ⟨q1, hq, h⟩ := Option.bind_eq_some_iff.mp h
  have f_q1 := jFr.step h0 (f_cFau_tell σ x1 (jI_at 1201 (σ.1 17) (σ.1 5 6)) σ jFr.rfl q1 hq) (by decide +kernel) (by decide +kernel)
  have h9 := Option.some.inj h
  subst h9
  exact f_q1
def ms_cRea_pass : List Nat := []
def fs_cRea_pass : List (Nat × Nat) := [(1, 0), (1, 1), (5, 6)]
theorem f_cRea_pass (σ0 : jx_S) (x1 : Int32) (σ : jx_S) (h0 : jFr ms_cRea_pass fs_cRea_pass σ0 σ) (t : jx_S) (h : p_cRea_pass x1 σ = some t) : fkV ms_cRea_pass fs_cRea_pass σ0 t := by
  unfold p_cRea_pass at h
  rcases Classical.em ((v_cRea_kind σ) = x1) with hc | hc
  · rw [if_pos hc] at h
    rcases Classical.em (x1 = 0) with hc | hc
    · rw [if_pos hc] at h
      have h9 := Option.some.inj h
      subst h9
      exact h0
    · rw [if_neg hc] at h
      have h9 := Option.some.inj h
      subst h9
      exact (jFr.i h0 (by decide))
  · rw [if_neg hc] at h
    obtain ⟨q1, hq, h⟩ := Option.bind_eq_some_iff.mp h
    have f_q1 := jFr.step h0 (f_cRea_tell σ (2 : Int32) σ jFr.rfl q1 hq) (by decide +kernel) (by decide +kernel)
    have h9 := Option.some.inj h
    subst h9
    exact f_q1
def ms_cFun_open : List Nat := [41, 43, 45, 47, 49, 51, 53]
def fs_cFun_open : List (Nat × Nat) := [(4, 10)]
theorem f_cFun_open (σ0 : jx_S) (x1 : Int32) (x2 : Int32) (σ : jx_S) (h0 : jFr ms_cFun_open fs_cFun_open σ0 σ) (t : jx_S) (h : p_cFun_open x1 x2 σ = some t) : fkV ms_cFun_open fs_cFun_open σ0 t := by
  unfold p_cFun_open at h
  have h9 := Option.some.inj h
  subst h9
  exact (jFr.i (jFr.ip (jFr.ip (jFr.ip (jFr.ip (jFr.ip (jFr.ip (jFr.ip h0 (by decide)) (by decide)) (by decide)) (by decide)) (by decide)) (by decide)) (by decide)) (by decide))
def ms_cFun_setType : List Nat := [57]
def fs_cFun_setType : List (Nat × Nat) := []
theorem f_cFun_setType (σ0 : jx_S) (x1 : Int32) (x2 : Int32) (x3 : Int32) (σ : jx_S) (h0 : jFr ms_cFun_setType fs_cFun_setType σ0 σ) (t : jx_S) (h : p_cFun_setType x1 x2 x3 σ = some t) : fkV ms_cFun_setType fs_cFun_setType σ0 t := by
  unfold p_cFun_setType at h
  have h9 := Option.some.inj h
  subst h9
  exact (jFr.ip h0 (by decide))
def ms_cFun_addLocal : List Nat := [47, 55, 57, 59]
def fs_cFun_addLocal : List (Nat × Nat) := []
theorem f_cFun_addLocal (σ0 : jx_S) (x1 : Int32) (x2 : Int32) (x3 : Int32) (σ : jx_S) (h0 : jFr ms_cFun_addLocal fs_cFun_addLocal σ0 σ) (t : (Int32 × jx_S)) (h : p_cFun_addLocal x1 x2 x3 σ = some t) : fkI ms_cFun_addLocal fs_cFun_addLocal σ0 t := by
  unfold p_cFun_addLocal at h
  obtain ⟨q1, hq, h⟩ := Option.bind_eq_some_iff.mp h
  have f_q1 := jFr.step (jFr.ip (jFr.ip (jFr.ip h0 (by decide)) (by decide)) (by decide)) (f_cFun_setType (jI_put 40 (jI_put 1200 (jI_put 1200 σ 55 ((x1 * (30 : Int32)) + (jI_at 40 (σ.1 47) x1)) x2) 59 ((x1 * (30 : Int32)) + (jI_at 40 (σ.1 47) x1)) (0 : Int32)) 47 x1 ((jI_at 40 (σ.1 47) x1) + (1 : Int32))) x1 (jI_at 40 (σ.1 47) x1) x3 (jI_put 40 (jI_put 1200 (jI_put 1200 σ 55 ((x1 * (30 : Int32)) + (jI_at 40 (σ.1 47) x1)) x2) 59 ((x1 * (30 : Int32)) + (jI_at 40 (σ.1 47) x1)) (0 : Int32)) 47 x1 ((jI_at 40 (σ.1 47) x1) + (1 : Int32))) jFr.rfl q1 hq) (by decide +kernel) (by decide +kernel)
  have h9 := Option.some.inj h
  subst h9
  exact f_q1
def ms_cRea_readLocal : List Nat := [47, 55, 57, 59]
def fs_cRea_readLocal : List (Nat × Nat) := [(1, 0), (1, 1), (5, 6)]
theorem f_cRea_readLocal_32 (σ0 : jx_S) (x1 : Int32) (σ : jx_S) (h0 : jFr ms_cRea_readLocal fs_cRea_readLocal σ0 σ) (t : (Int32 × jx_S)) (h : p_cRea_readLocal_32 x1 σ = some t) : fkI ms_cRea_readLocal fs_cRea_readLocal σ0 t := by
  unfold p_cRea_readLocal_32 at h
  obtain ⟨q1, hq, h⟩ := Option.bind_eq_some_iff.mp h
  have f_q1 := jFr.step h0 (f_cRea_pass σ (1 : Int32) σ jFr.rfl q1 hq) (by decide +kernel) (by decide +kernel)
  rcases Classical.em ((v_cFau_isTold q1) = 0) with hc | hc
  · rw [if_pos hc] at h
    obtain ⟨q2, hq, h⟩ := Option.bind_eq_some_iff.mp h
    have f_q2 := jFr.step f_q1 (f_cFun_addLocal q1 (q1.1 5 7) (σ.1 5 6) x1 q1 jFr.rfl q2 hq) (by decide +kernel) (by decide +kernel)
    have h9 := Option.some.inj h
    subst h9
    exact f_q2
  · rw [if_neg hc] at h
    have h9 := Option.some.inj h
    subst h9
    exact f_q1
theorem f_cRea_readLocal (σ0 : jx_S) (x1 : Int32) (σ : jx_S) (h0 : jFr ms_cRea_readLocal fs_cRea_readLocal σ0 σ) (t : (Int32 × jx_S)) (h : p_cRea_readLocal x1 σ = some t) : fkI ms_cRea_readLocal fs_cRea_readLocal σ0 t := by
  unfold p_cRea_readLocal at h
  rcases Classical.em (¬ (v_cRea_kind σ) = (1 : Int32)) with hc | hc
  · rw [if_pos hc] at h
    exact f_cRea_readLocal_32 σ0 x1 σ h0 _ h
  · rw [if_neg hc] at h
    rcases Classical.em (¬ (jI_at 40 (σ.1 47) (σ.1 5 7)) = (30 : Int32)) with hc | hc
    · rw [if_pos hc] at h
      exact f_cRea_readLocal_32 σ0 x1 σ h0 _ h
    · rw [if_neg hc] at h
      obtain ⟨q3, hq, h⟩ := Option.bind_eq_some_iff.mp h
      have f_q3 := jFr.step h0 (f_cRea_tell σ (4 : Int32) σ jFr.rfl q3 hq) (by decide +kernel) (by decide +kernel)
      exact f_cRea_readLocal_32 σ0 x1 q3 f_q3 _ h
def ms_cRea_readBase : List Nat := []
def fs_cRea_readBase : List (Nat × Nat) := [(1, 0), (1, 1), (5, 6)]
theorem f_cRea_readBase_33 (σ0 : jx_S) (x1 : Int32) (σ : jx_S) (h0 : jFr ms_cRea_readBase fs_cRea_readBase σ0 σ) (t : (Int32 × jx_S)) (h : p_cRea_readBase_33 x1 σ = some t) : fkI ms_cRea_readBase fs_cRea_readBase σ0 t := by
  unfold p_cRea_readBase_33 at h
  rcases Classical.em (¬ x1 = (4 : Int32)) with hc | hc
  · rw [if_pos hc] at h
    have h9 := Option.some.inj h
    subst h9
    exact h0
  · rw [if_neg hc] at h
    have h9 := Option.some.inj h
    subst h9
    exact h0
theorem f_cRea_readBase_15 (σ0 : jx_S) (x1 : Int32) (σ : jx_S) (h0 : jFr ms_cRea_readBase fs_cRea_readBase σ0 σ) (t : (Int32 × jx_S)) (h : p_cRea_readBase_15 x1 σ = some t) : fkI ms_cRea_readBase fs_cRea_readBase σ0 t := by
  unfold p_cRea_readBase_15 at h
  exact f_cRea_readBase_33 σ0 x1 (jx_i σ 5 6 ((σ.1 5 6) + (1 : Int32))) (jFr.i h0 (by decide)) _ h
theorem f_cRea_readBase (σ0 : jx_S) (σ : jx_S) (h0 : jFr ms_cRea_readBase fs_cRea_readBase σ0 σ) (t : (Int32 × jx_S)) (h : p_cRea_readBase σ = some t) : fkI ms_cRea_readBase fs_cRea_readBase σ0 t := by
  unfold p_cRea_readBase at h
  rcases Classical.em ((v_cRea_kind σ) = (3 : Int32)) with hc | hc
  · rw [if_pos hc] at h
    exact f_cRea_readBase_15 σ0 (v_cRea_kind σ) σ h0 _ h
  · rw [if_neg hc] at h
    rcases Classical.em (¬ (v_cRea_kind σ) = (4 : Int32)) with hc | hc
    · rw [if_pos hc] at h
      obtain ⟨q1, hq, h⟩ := Option.bind_eq_some_iff.mp h
      have f_q1 := jFr.step h0 (f_cRea_tell σ (2 : Int32) σ jFr.rfl q1 hq) (by decide +kernel) (by decide +kernel)
      exact f_cRea_readBase_33 σ0 (v_cRea_kind σ) q1 f_q1 _ h
    · rw [if_neg hc] at h
      exact f_cRea_readBase_15 σ0 (v_cRea_kind σ) σ h0 _ h
def ms_cRea_readType : List Nat := []
def fs_cRea_readType : List (Nat × Nat) := [(1, 0), (1, 1), (5, 6)]
theorem f_cRea_readType (σ0 : jx_S) (σ : jx_S) (h0 : jFr ms_cRea_readType fs_cRea_readType σ0 σ) (t : (Int32 × jx_S)) (h : p_cRea_readType σ = some t) : fkI ms_cRea_readType fs_cRea_readType σ0 t := by
  unfold p_cRea_readType at h
  obtain ⟨q1, hq, h⟩ := Option.bind_eq_some_iff.mp h
  have f_q1 := jFr.step h0 (f_cRea_readBase σ σ jFr.rfl q1 hq) (by decide +kernel) (by decide +kernel)
  rcases Classical.em ((v_cRea_kind q1.2) = (21 : Int32)) with hc | hc
  · rw [if_pos hc] at h
    obtain ⟨q2, hq, h⟩ := Option.bind_eq_some_iff.mp h
    have f_q2 := jFr.step f_q1 (f_cRea_pass q1.2 (21 : Int32) q1.2 jFr.rfl q2 hq) (by decide +kernel) (by decide +kernel)
    obtain ⟨q3, hq, h⟩ := Option.bind_eq_some_iff.mp h
    have f_q3 := jFr.step f_q2 (f_cRea_readBase q2 q2 jFr.rfl q3 hq) (by decide +kernel) (by decide +kernel)
    rcases Classical.em ((v_cRea_kind q3.2) = (21 : Int32)) with hc | hc
    · rw [if_pos hc] at h
      obtain ⟨q4, hq, h⟩ := Option.bind_eq_some_iff.mp h
      have f_q4 := jFr.step f_q3 (f_cRea_pass q3.2 (21 : Int32) q3.2 jFr.rfl q4 hq) (by decide +kernel) (by decide +kernel)
      obtain ⟨q5, hq, h⟩ := Option.bind_eq_some_iff.mp h
      have f_q5 := jFr.step f_q4 (f_cRea_readBase q4 q4 jFr.rfl q5 hq) (by decide +kernel) (by decide +kernel)
      have h9 := Option.some.inj h
      subst h9
      exact f_q5
    · rw [if_neg hc] at h
      have h9 := Option.some.inj h
      subst h9
      exact f_q3
  · rw [if_neg hc] at h
    have h9 := Option.some.inj h
    subst h9
    exact f_q1
def ms_cRea_show : List Nat := [61]
def fs_cRea_show : List (Nat × Nat) := [(5, 5)]
theorem f_cRea_show (σ0 : jx_S) (x1 : Int32) (σ : jx_S) (h0 : jFr ms_cRea_show fs_cRea_show σ0 σ) (t : jx_S) (h : p_cRea_show x1 σ = some t) : fkV ms_cRea_show fs_cRea_show σ0 t := by
  unfold p_cRea_show at h
  have h9 := Option.some.inj h
  subst h9
  exact (jFr.i (jFr.ip h0 (by decide)) (by decide))
def ms_cRea_readParameter : List Nat := [43, 47, 55, 57, 59, 61]
def fs_cRea_readParameter : List (Nat × Nat) := [(1, 0), (1, 1), (5, 5), (5, 6)]
theorem f_cRea_readParameter_25 (σ0 : jx_S) (x1 : Int32) (σ : jx_S) (h0 : jFr ms_cRea_readParameter fs_cRea_readParameter σ0 σ) (t : jx_S) (h : p_cRea_readParameter_25 x1 σ = some t) : fkV ms_cRea_readParameter fs_cRea_readParameter σ0 t := by
  unfold p_cRea_readParameter_25 at h
  obtain ⟨q2, hq, h⟩ := Option.bind_eq_some_iff.mp h
  have f_q2 := jFr.step h0 (f_cRea_readLocal σ (0 : Int32) σ jFr.rfl q2 hq) (by decide +kernel) (by decide +kernel)
  obtain ⟨q3, hq, h⟩ := Option.bind_eq_some_iff.mp h
  have f_q3 := jFr.step f_q2 (f_cRea_pass q2.2 (18 : Int32) q2.2 jFr.rfl q3 hq) (by decide +kernel) (by decide +kernel)
  obtain ⟨q4, hq, h⟩ := Option.bind_eq_some_iff.mp h
  have f_q4 := jFr.step f_q3 (f_cRea_readType q3 q3 jFr.rfl q4 hq) (by decide +kernel) (by decide +kernel)
  obtain ⟨q5, hq, h⟩ := Option.bind_eq_some_iff.mp h
  have f_q5 := jFr.step f_q4 (f_cFun_setType q4.2 (q3.1 5 7) q2.1 q4.1 q4.2 jFr.rfl q5 hq) (by decide +kernel) (by decide +kernel)
  obtain ⟨q6, hq, h⟩ := Option.bind_eq_some_iff.mp h
  have f_q6 := jFr.step f_q5 (f_cRea_pass q5 (17 : Int32) q5 jFr.rfl q6 hq) (by decide +kernel) (by decide +kernel)
  obtain ⟨q7, hq, h⟩ := Option.bind_eq_some_iff.mp h
  have f_q7 := jFr.step (jFr.ip f_q6 (by decide)) (f_cRea_show (jI_put 40 q6 43 (q6.1 5 7) (x1 + (1 : Int32))) q2.1 (jI_put 40 q6 43 (q6.1 5 7) (x1 + (1 : Int32))) jFr.rfl q7 hq) (by decide +kernel) (by decide +kernel)
  have h9 := Option.some.inj h
  subst h9
  exact f_q7
theorem f_cRea_readParameter (σ0 : jx_S) (x1 : Int32) (σ : jx_S) (h0 : jFr ms_cRea_readParameter fs_cRea_readParameter σ0 σ) (t : jx_S) (h : p_cRea_readParameter x1 σ = some t) : fkV ms_cRea_readParameter fs_cRea_readParameter σ0 t := by
  unfold p_cRea_readParameter at h
  obtain ⟨q1, hq, h⟩ := Option.bind_eq_some_iff.mp h
  have f_q1 := jFr.step h0 (f_cRea_pass σ (16 : Int32) σ jFr.rfl q1 hq) (by decide +kernel) (by decide +kernel)
  rcases Classical.em (¬ x1 = (8 : Int32)) with hc | hc
  · rw [if_pos hc] at h
    exact f_cRea_readParameter_25 σ0 x1 q1 f_q1 _ h
  · rw [if_neg hc] at h
    rcases Classical.em (¬ (v_cRea_kind q1) = (1 : Int32)) with hc | hc
    · rw [if_pos hc] at h
      exact f_cRea_readParameter_25 σ0 x1 q1 f_q1 _ h
    · rw [if_neg hc] at h
      obtain ⟨q8, hq, h⟩ := Option.bind_eq_some_iff.mp h
      have f_q8 := jFr.step f_q1 (f_cRea_tell q1 (4 : Int32) q1 jFr.rfl q8 hq) (by decide +kernel) (by decide +kernel)
      exact f_cRea_readParameter_25 σ0 x1 q8 f_q8 _ h
def ms_cRea_hide : List Nat := []
def fs_cRea_hide : List (Nat × Nat) := [(5, 5)]
theorem f_cRea_hide (σ0 : jx_S) (x1 : Int32) (σ : jx_S) (h0 : jFr ms_cRea_hide fs_cRea_hide σ0 σ) (t : jx_S) (h : p_cRea_hide x1 σ = some t) : fkV ms_cRea_hide fs_cRea_hide σ0 t := by
  unfold p_cRea_hide at h
  have h9 := Option.some.inj h
  subst h9
  exact (jFr.i h0 (by decide))
def ms_cTre_adopt : List Nat := [31]
def fs_cTre_adopt : List (Nat × Nat) := []
def fk_cTre_adopt_11 (σ0 : jx_S) (t : ((Int32 × Int32 × Int32 × jx_S) ⊕ jx_S)) : Prop := match t with
  | .inl s => jFr ms_cTre_adopt fs_cTre_adopt σ0 (s.2.2.2)
  | .inr t => fkV ms_cTre_adopt fs_cTre_adopt σ0 t
theorem f_cTre_adopt_11_s (σ0 : jx_S) (x1 : Int32) (x2 : Int32) (x3 : Int32) (σ : jx_S) (h0 : jFr ms_cTre_adopt fs_cTre_adopt σ0 σ) (t : ((Int32 × Int32 × Int32 × jx_S) ⊕ jx_S)) (h : p_cTre_adopt_11_s x1 x2 x3 σ = some t) : fk_cTre_adopt_11 σ0 t := by
  unfold p_cTre_adopt_11_s at h
  rcases Classical.em ((1200 : Int32) ≤ x3) with hc | hc
  · rw [if_pos hc] at h
    obtain ⟨t9_1, h9_1, h8_1⟩ := Option.map_eq_some_iff.mp h
    clear h
    subst h8_1
    have h := h9_1
    clear h9_1
    have h9 := Option.some.inj h
    subst h9
    exact h0
  · rw [if_neg hc] at h
    rcases Classical.em (x2 = 0) with hc | hc
    · rw [if_pos hc] at h
      obtain ⟨t9_2, h9_2, h8_2⟩ := Option.map_eq_some_iff.mp h
      clear h
      subst h8_2
      have h := h9_2
      clear h9_2
      have h9 := Option.some.inj h
      subst h9
      exact h0
    · rw [if_neg hc] at h
      have h9 := Option.some.inj h
      subst h9
      exact (jFr.ip h0 (by decide))
theorem f_cTre_adopt_11 (σ0 : jx_S) (x1 : Int32) (x2 : Int32) (x3 : Int32) (σ : jx_S) (h0 : jFr ms_cTre_adopt fs_cTre_adopt σ0 σ) (t : jx_S) (h : p_cTre_adopt_11 x1 x2 x3 σ = some t) : fkV ms_cTre_adopt fs_cTre_adopt σ0 t := by
  refine jx_loop_ok (E := fun s t => jFr ms_cTre_adopt fs_cTre_adopt σ0 (s.2.2.2) → fkV ms_cTre_adopt fs_cTre_adopt σ0 t) (fun s t hs => ?_) _ _ _ h h0
  cases t with
  | inl s1 => exact fun b hb hf => hb (f_cTre_adopt_11_s σ0 (s.1) (s.2.1) (s.2.2.1) (s.2.2.2) hf _ hs)
  | inr b => exact fun hf => f_cTre_adopt_11_s σ0 (s.1) (s.2.1) (s.2.2.1) (s.2.2.2) hf _ hs
theorem f_cTre_adopt (σ0 : jx_S) (x1 : Int32) (σ : jx_S) (h0 : jFr ms_cTre_adopt fs_cTre_adopt σ0 σ) (t : jx_S) (h : p_cTre_adopt x1 σ = some t) : fkV ms_cTre_adopt fs_cTre_adopt σ0 t := by
  unfold p_cTre_adopt at h
  exact f_cTre_adopt_11 σ0 x1 (jI_at 1201 (σ.1 27) x1) (0 : Int32) σ h0 _ h
def ms_cTre_add : List Nat := [23, 25, 27, 29, 31, 33, 35, 37, 39]
def fs_cTre_add : List (Nat × Nat) := [(3, 9)]
theorem f_cTre_add_79 (σ0 : jx_S) (y0 : Int32) (y1 : Int32) (σ : jx_S) (h0 : jFr ms_cTre_add fs_cTre_add σ0 σ) (t : (Int32 × jx_S)) (h : p_cTre_add_79 y0 y1 σ = some t) : fkI ms_cTre_add fs_cTre_add σ0 t := by
  unfold p_cTre_add_79 at h
  obtain ⟨q1, hq, h⟩ := Option.bind_eq_some_iff.mp h
  have f_q1 := jFr.step (jFr.ip (jFr.ip (jFr.ip (jFr.ip h0 (by decide)) (by decide)) (by decide)) (by decide)) (f_cTre_adopt (jI_put 1201 (jI_put 1201 (jI_put 1201 (jI_put 1201 σ 33 y1 y0) 35 (σ.1 3 9) (0 : Int32)) 37 (σ.1 3 9) (0 : Int32)) 39 (σ.1 3 9) (0 : Int32)) (σ.1 3 9) (jI_put 1201 (jI_put 1201 (jI_put 1201 (jI_put 1201 σ 33 y1 y0) 35 (σ.1 3 9) (0 : Int32)) 37 (σ.1 3 9) (0 : Int32)) 39 (σ.1 3 9) (0 : Int32)) jFr.rfl q1 hq) (by decide +kernel) (by decide +kernel)
  have h9 := Option.some.inj h
  subst h9
  exact f_q1
theorem f_cTre_add (σ0 : jx_S) (x1 : Int32) (x2 : Int32) (x3 : Int32) (σ : jx_S) (h0 : jFr ms_cTre_add fs_cTre_add σ0 σ) (t : (Int32 × jx_S)) (h : p_cTre_add x1 x2 x3 σ = some t) : fkI ms_cTre_add fs_cTre_add σ0 t := by
  unfold p_cTre_add at h
  exact f_cTre_add_79 σ0 (0 : Int32) ((σ.1 3 9) + (1 : Int32)) (jI_put 1201 (jI_put 1201 (jI_put 1201 (jI_put 1201 (jI_put 1201 (jx_i σ 3 9 ((σ.1 3 9) + (1 : Int32))) 23 ((σ.1 3 9) + (1 : Int32)) x1) 25 ((σ.1 3 9) + (1 : Int32)) x2) 27 ((σ.1 3 9) + (1 : Int32)) x3) 29 ((σ.1 3 9) + (1 : Int32)) (0 : Int32)) 31 ((σ.1 3 9) + (1 : Int32)) (0 : Int32)) (jFr.ip (jFr.ip (jFr.ip (jFr.ip (jFr.ip (jFr.i h0 (by decide)) (by decide)) (by decide)) (by decide)) (by decide)) (by decide)) _ h
def ms_cRea_addNode : List Nat := [23, 25, 27, 29, 31, 33, 35, 37, 39]
def fs_cRea_addNode : List (Nat × Nat) := [(3, 9)]
theorem f_cRea_addNode (σ0 : jx_S) (x1 : Int32) (x2 : Int32) (x3 : Int32) (x4 : Int32) (x5 : Int32) (x6 : Int32) (σ : jx_S) (h0 : jFr ms_cRea_addNode fs_cRea_addNode σ0 σ) (t : (Int32 × jx_S)) (h : p_cRea_addNode x1 x2 x3 x4 x5 x6 σ = some t) : fkI ms_cRea_addNode fs_cRea_addNode σ0 t := by
  unfold p_cRea_addNode at h
  rcases Classical.em ((v_cFau_isTold σ) = 0) with hc | hc
  · rw [if_pos hc] at h
    obtain ⟨q1, hq, h⟩ := Option.bind_eq_some_iff.mp h
    have f_q1 := jFr.step (jFr.ip (jFr.ip h0 (by decide)) (by decide)) (f_cTre_add (jI_put 1201 (jI_put 1201 σ 29 x4 x5) 29 x5 x6) x1 x2 x4 (jI_put 1201 (jI_put 1201 σ 29 x4 x5) 29 x5 x6) jFr.rfl q1 hq) (by decide +kernel) (by decide +kernel)
    have h9 := Option.some.inj h
    subst h9
    exact (jFr.ip f_q1 (by decide))
  · rw [if_neg hc] at h
    have h9 := Option.some.inj h
    subst h9
    exact h0
theorem f_cRea_readLet (rec : (Int32 → jx_S → Option (Int32 × jx_S))) (hrec : ∀ z0 s r, rec z0 s = some r → jFr ms_cRea_readExpression fs_cRea_readExpression s r.2) (σ0 : jx_S) (x1 : Int32) (σ : jx_S) (h0 : jFr ms_cRea_readExpression fs_cRea_readExpression σ0 σ) (t : (Int32 × jx_S)) (h : p_cRea_readLet rec x1 σ = some t) : fkI ms_cRea_readExpression fs_cRea_readExpression σ0 t := by
  unfold p_cRea_readLet at h
  obtain ⟨q1, hq, h⟩ := Option.bind_eq_some_iff.mp h
  have f_q1 := jFr.step h0 (f_cRea_pass σ (5 : Int32) σ jFr.rfl q1 hq) (by decide +kernel) (by decide +kernel)
  obtain ⟨q2, hq, h⟩ := Option.bind_eq_some_iff.mp h
  have f_q2 := jFr.step f_q1 (f_cRea_readLocal q1 (0 : Int32) q1 jFr.rfl q2 hq) (by decide +kernel) (by decide +kernel)
  obtain ⟨q3, hq, h⟩ := Option.bind_eq_some_iff.mp h
  have f_q3 := jFr.step f_q2 (f_cRea_pass q2.2 (18 : Int32) q2.2 jFr.rfl q3 hq) (by decide +kernel) (by decide +kernel)
  obtain ⟨q4, hq, h⟩ := Option.bind_eq_some_iff.mp h
  have f_q4 := jFr.step f_q3 (f_cRea_readBase q3 q3 jFr.rfl q4 hq) (by decide +kernel) (by decide +kernel)
  obtain ⟨q5, hq, h⟩ := Option.bind_eq_some_iff.mp h
  have f_q5 := jFr.step f_q4 (f_cFun_setType q4.2 (q3.1 5 7) q2.1 q4.1 q4.2 jFr.rfl q5 hq) (by decide +kernel) (by decide +kernel)
  obtain ⟨q6, hq, h⟩ := Option.bind_eq_some_iff.mp h
  have f_q6 := jFr.step f_q5 (f_cRea_pass q5 (19 : Int32) q5 jFr.rfl q6 hq) (by decide +kernel) (by decide +kernel)
  obtain ⟨q7, hq, h⟩ := Option.bind_eq_some_iff.mp h
  have f_q7 := jFr.step f_q6 (hrec (x1 + (1 : Int32)) q6 q7 hq) (by decide +kernel) (by decide +kernel)
  obtain ⟨q8, hq, h⟩ := Option.bind_eq_some_iff.mp h
  have f_q8 := jFr.step f_q7 (f_cRea_pass q7.2 (6 : Int32) q7.2 jFr.rfl q8 hq) (by decide +kernel) (by decide +kernel)
  obtain ⟨q9, hq, h⟩ := Option.bind_eq_some_iff.mp h
  have f_q9 := jFr.step f_q8 (f_cRea_show q8 q2.1 q8 jFr.rfl q9 hq) (by decide +kernel) (by decide +kernel)
  obtain ⟨q10, hq, h⟩ := Option.bind_eq_some_iff.mp h
  have f_q10 := jFr.step f_q9 (hrec (x1 + (1 : Int32)) q9 q10 hq) (by decide +kernel) (by decide +kernel)
  obtain ⟨q11, hq, h⟩ := Option.bind_eq_some_iff.mp h
  have f_q11 := jFr.step f_q10 (f_cRea_hide q10.2 (1 : Int32) q10.2 jFr.rfl q11 hq) (by decide +kernel) (by decide +kernel)
  obtain ⟨q12, hq, h⟩ := Option.bind_eq_some_iff.mp h
  have f_q12 := jFr.step f_q11 (f_cRea_addNode q11 (5 : Int32) (σ.1 5 6) q2.1 q7.1 q10.1 (0 : Int32) q11 jFr.rfl q12 hq) (by decide +kernel) (by decide +kernel)
  have h9 := Option.some.inj h
  subst h9
  exact f_q12
theorem f_cRea_readIf (rec : (Int32 → jx_S → Option (Int32 × jx_S))) (hrec : ∀ z0 s r, rec z0 s = some r → jFr ms_cRea_readExpression fs_cRea_readExpression s r.2) (σ0 : jx_S) (x1 : Int32) (σ : jx_S) (h0 : jFr ms_cRea_readExpression fs_cRea_readExpression σ0 σ) (t : (Int32 × jx_S)) (h : p_cRea_readIf rec x1 σ = some t) : fkI ms_cRea_readExpression fs_cRea_readExpression σ0 t := by
  unfold p_cRea_readIf at h
  obtain ⟨q1, hq, h⟩ := Option.bind_eq_some_iff.mp h
  have f_q1 := jFr.step h0 (f_cRea_pass σ (7 : Int32) σ jFr.rfl q1 hq) (by decide +kernel) (by decide +kernel)
  obtain ⟨q2, hq, h⟩ := Option.bind_eq_some_iff.mp h
  have f_q2 := jFr.step f_q1 (hrec (x1 + (1 : Int32)) q1 q2 hq) (by decide +kernel) (by decide +kernel)
  obtain ⟨q3, hq, h⟩ := Option.bind_eq_some_iff.mp h
  have f_q3 := jFr.step f_q2 (f_cRea_pass q2.2 (8 : Int32) q2.2 jFr.rfl q3 hq) (by decide +kernel) (by decide +kernel)
  obtain ⟨q4, hq, h⟩ := Option.bind_eq_some_iff.mp h
  have f_q4 := jFr.step f_q3 (hrec (x1 + (1 : Int32)) q3 q4 hq) (by decide +kernel) (by decide +kernel)
  obtain ⟨q5, hq, h⟩ := Option.bind_eq_some_iff.mp h
  have f_q5 := jFr.step f_q4 (f_cRea_pass q4.2 (9 : Int32) q4.2 jFr.rfl q5 hq) (by decide +kernel) (by decide +kernel)
  obtain ⟨q6, hq, h⟩ := Option.bind_eq_some_iff.mp h
  have f_q6 := jFr.step f_q5 (hrec (x1 + (1 : Int32)) q5 q6 hq) (by decide +kernel) (by decide +kernel)
  obtain ⟨q7, hq, h⟩ := Option.bind_eq_some_iff.mp h
  have f_q7 := jFr.step f_q6 (f_cRea_addNode q6.2 (7 : Int32) (σ.1 5 6) (0 : Int32) q2.1 q4.1 q6.1 q6.2 jFr.rfl q7 hq) (by decide +kernel) (by decide +kernel)
  have h9 := Option.some.inj h
  subst h9
  exact f_q7
theorem f_cRea_readCase (rec : (Int32 → jx_S → Option (Int32 × jx_S))) (hrec : ∀ z0 s r, rec z0 s = some r → jFr ms_cRea_readExpression fs_cRea_readExpression s r.2) (σ0 : jx_S) (x1 : Int32) (σ : jx_S) (h0 : jFr ms_cRea_readExpression fs_cRea_readExpression σ0 σ) (t : (Int32 × jx_S)) (h : p_cRea_readCase rec x1 σ = some t) : fkI ms_cRea_readExpression fs_cRea_readExpression σ0 t := by
  unfold p_cRea_readCase at h
  obtain ⟨q1, hq, h⟩ := Option.bind_eq_some_iff.mp h
  have f_q1 := jFr.step h0 (f_cRea_pass σ (10 : Int32) σ jFr.rfl q1 hq) (by decide +kernel) (by decide +kernel)
  obtain ⟨q2, hq, h⟩ := Option.bind_eq_some_iff.mp h
  have f_q2 := jFr.step f_q1 (hrec (x1 + (1 : Int32)) q1 q2 hq) (by decide +kernel) (by decide +kernel)
  obtain ⟨q3, hq, h⟩ := Option.bind_eq_some_iff.mp h
  have f_q3 := jFr.step f_q2 (f_cRea_pass q2.2 (11 : Int32) q2.2 jFr.rfl q3 hq) (by decide +kernel) (by decide +kernel)
  obtain ⟨q4, hq, h⟩ := Option.bind_eq_some_iff.mp h
  have f_q4 := jFr.step f_q3 (f_cRea_pass q3 (12 : Int32) q3 jFr.rfl q4 hq) (by decide +kernel) (by decide +kernel)
  obtain ⟨q5, hq, h⟩ := Option.bind_eq_some_iff.mp h
  have f_q5 := jFr.step f_q4 (f_cRea_pass q4 (21 : Int32) q4 jFr.rfl q5 hq) (by decide +kernel) (by decide +kernel)
  obtain ⟨q6, hq, h⟩ := Option.bind_eq_some_iff.mp h
  have f_q6 := jFr.step f_q5 (hrec (x1 + (1 : Int32)) q5 q6 hq) (by decide +kernel) (by decide +kernel)
  obtain ⟨q7, hq, h⟩ := Option.bind_eq_some_iff.mp h
  have f_q7 := jFr.step f_q6 (f_cRea_pass q6.2 (22 : Int32) q6.2 jFr.rfl q7 hq) (by decide +kernel) (by decide +kernel)
  obtain ⟨q8, hq, h⟩ := Option.bind_eq_some_iff.mp h
  have f_q8 := jFr.step f_q7 (f_cRea_readLocal q7 (0 : Int32) q7 jFr.rfl q8 hq) (by decide +kernel) (by decide +kernel)
  obtain ⟨q9, hq, h⟩ := Option.bind_eq_some_iff.mp h
  have f_q9 := jFr.step f_q8 (f_cRea_pass q8.2 (18 : Int32) q8.2 jFr.rfl q9 hq) (by decide +kernel) (by decide +kernel)
  obtain ⟨q10, hq, h⟩ := Option.bind_eq_some_iff.mp h
  have f_q10 := jFr.step f_q9 (f_cRea_readLocal q9 (1 : Int32) q9 jFr.rfl q10 hq) (by decide +kernel) (by decide +kernel)
  obtain ⟨q11, hq, h⟩ := Option.bind_eq_some_iff.mp h
  have f_q11 := jFr.step f_q10 (f_cRea_pass q10.2 (21 : Int32) q10.2 jFr.rfl q11 hq) (by decide +kernel) (by decide +kernel)
  obtain ⟨q12, hq, h⟩ := Option.bind_eq_some_iff.mp h
  have f_q12 := jFr.step f_q11 (f_cRea_show q11 q8.1 q11 jFr.rfl q12 hq) (by decide +kernel) (by decide +kernel)
  obtain ⟨q13, hq, h⟩ := Option.bind_eq_some_iff.mp h
  have f_q13 := jFr.step f_q12 (f_cRea_show q12 q10.1 q12 jFr.rfl q13 hq) (by decide +kernel) (by decide +kernel)
  obtain ⟨q14, hq, h⟩ := Option.bind_eq_some_iff.mp h
  have f_q14 := jFr.step f_q13 (hrec (x1 + (1 : Int32)) q13 q14 hq) (by decide +kernel) (by decide +kernel)
  obtain ⟨q15, hq, h⟩ := Option.bind_eq_some_iff.mp h
  have f_q15 := jFr.step f_q14 (f_cRea_hide q14.2 (2 : Int32) q14.2 jFr.rfl q15 hq) (by decide +kernel) (by decide +kernel)
  obtain ⟨q16, hq, h⟩ := Option.bind_eq_some_iff.mp h
  have f_q16 := jFr.step f_q15 (f_cRea_addNode q15 (10 : Int32) (σ.1 5 6) q8.1 q2.1 q6.1 q14.1 q15 jFr.rfl q16 hq) (by decide +kernel) (by decide +kernel)
  have h9 := Option.some.inj h
  subst h9
  exact f_q16
def ms_cRea_findLocal : List Nat := []
def fs_cRea_findLocal : List (Nat × Nat) := []
def fk_cRea_findLocal_7 (σ0 : jx_S) (t : ((Int32 × Int32 × jx_S) ⊕ (Int32 × jx_S))) : Prop := match t with
  | .inl s => jFr ms_cRea_findLocal fs_cRea_findLocal σ0 (s.2.2)
  | .inr t => fkI ms_cRea_findLocal fs_cRea_findLocal σ0 t
theorem f_cRea_findLocal_7_s (σ0 : jx_S) (x1 : Int32) (x2 : Int32) (σ : jx_S) (h0 : jFr ms_cRea_findLocal fs_cRea_findLocal σ0 σ) (t : ((Int32 × Int32 × jx_S) ⊕ (Int32 × jx_S))) (h : p_cRea_findLocal_7_s x1 x2 σ = some t) : fk_cRea_findLocal_7 σ0 t := by
  unfold p_cRea_findLocal_7_s at h
  rcases Classical.em (x2 < 0) with hc | hc
  · rw [if_pos hc] at h
    obtain ⟨t9_1, h9_1, h8_1⟩ := Option.map_eq_some_iff.mp h
    clear h
    subst h8_1
    have h := h9_1
    clear h9_1
    have h9 := Option.some.inj h
    subst h9
    exact h0
  · rw [if_neg hc] at h
    rcases Classical.em (¬ (lg_cmp (jL_at 1201 (σ.2 19) (v_cFun_nameOf (σ.1 5 7) (jI_at 30 (σ.1 61) x2) σ)) (jL_at 1201 (σ.2 19) x1)) = 0) with hc | hc
    · rw [if_pos hc] at h
      have h9 := Option.some.inj h
      subst h9
      exact h0
    · rw [if_neg hc] at h
      obtain ⟨t9_2, h9_2, h8_2⟩ := Option.map_eq_some_iff.mp h
      clear h
      subst h8_2
      have h := h9_2
      clear h9_2
      have h9 := Option.some.inj h
      subst h9
      exact h0
theorem f_cRea_findLocal_7 (σ0 : jx_S) (x1 : Int32) (x2 : Int32) (σ : jx_S) (h0 : jFr ms_cRea_findLocal fs_cRea_findLocal σ0 σ) (t : (Int32 × jx_S)) (h : p_cRea_findLocal_7 x1 x2 σ = some t) : fkI ms_cRea_findLocal fs_cRea_findLocal σ0 t := by
  refine jx_loop_ok (E := fun s t => jFr ms_cRea_findLocal fs_cRea_findLocal σ0 (s.2.2) → fkI ms_cRea_findLocal fs_cRea_findLocal σ0 t) (fun s t hs => ?_) _ _ _ h h0
  cases t with
  | inl s1 => exact fun b hb hf => hb (f_cRea_findLocal_7_s σ0 (s.1) (s.2.1) (s.2.2) hf _ hs)
  | inr b => exact fun hf => f_cRea_findLocal_7_s σ0 (s.1) (s.2.1) (s.2.2) hf _ hs
theorem f_cRea_findLocal (σ0 : jx_S) (x1 : Int32) (σ : jx_S) (h0 : jFr ms_cRea_findLocal fs_cRea_findLocal σ0 σ) (t : (Int32 × jx_S)) (h : p_cRea_findLocal x1 σ = some t) : fkI ms_cRea_findLocal fs_cRea_findLocal σ0 t := by
  unfold p_cRea_findLocal at h
  exact f_cRea_findLocal_7 σ0 x1 ((σ.1 5 5) - (1 : Int32)) σ h0 _ h
def ms_cRea_addName : List Nat := [23, 25, 27, 29, 31, 33, 35, 37, 39]
def fs_cRea_addName : List (Nat × Nat) := [(3, 9)]
theorem f_cRea_addName_36 (σ0 : jx_S) (x1 : Int32) (x2 : Int32) (x3 : Int32) (x4 : Int32) (y0 : Int32) (σ : jx_S) (h0 : jFr ms_cRea_addName fs_cRea_addName σ0 σ) (t : (Int32 × jx_S)) (h : p_cRea_addName_36 x1 x2 x3 x4 y0 σ = some t) : fkI ms_cRea_addName fs_cRea_addName σ0 t := by
  unfold p_cRea_addName_36 at h
  obtain ⟨q2, hq, h⟩ := Option.bind_eq_some_iff.mp h
  have f_q2 := jFr.step h0 (f_cTre_add σ y0 x1 x2 σ jFr.rfl q2 hq) (by decide +kernel) (by decide +kernel)
  have h9 := Option.some.inj h
  subst h9
  exact (jFr.ip (jFr.ip f_q2 (by decide)) (by decide))
theorem f_cRea_addName (σ0 : jx_S) (x1 : Int32) (x2 : Int32) (x3 : Int32) (σ : jx_S) (h0 : jFr ms_cRea_addName fs_cRea_addName σ0 σ) (t : (Int32 × jx_S)) (h : p_cRea_addName x1 x2 x3 σ = some t) : fkI ms_cRea_addName fs_cRea_addName σ0 t := by
  unfold p_cRea_addName at h
  rcases Classical.em ((v_cFau_isTold σ) = 0) with hc | hc
  · rw [if_pos hc] at h
    obtain ⟨q1, hq, h⟩ := Option.bind_eq_some_iff.mp h
    have f_q1 := jFr.step h0 (f_cRea_findLocal σ x1 σ jFr.rfl q1 hq) (by decide +kernel) (by decide +kernel)
    rcases Classical.em (¬ q1.1 = (-1 : Int32)) with hc | hc
    · rw [if_pos hc] at h
      exact f_cRea_addName_36 σ0 x1 x2 x3 q1.1 (28 : Int32) q1.2 f_q1 _ h
    · rw [if_neg hc] at h
      exact f_cRea_addName_36 σ0 x1 x2 x3 q1.1 (29 : Int32) q1.2 f_q1 _ h
  · rw [if_neg hc] at h
    have h9 := Option.some.inj h
    subst h9
    exact h0
theorem f_cRea_readAtom_97 (rec : (Int32 → jx_S → Option (Int32 × jx_S))) (hrec : ∀ z0 s r, rec z0 s = some r → jFr ms_cRea_readExpression fs_cRea_readExpression s r.2) (σ0 : jx_S) (x2 : Int32) (x3 : Int32) (σ : jx_S) (h0 : jFr ms_cRea_readExpression fs_cRea_readExpression σ0 σ) (t : (Int32 × jx_S)) (h : p_cRea_readAtom_97 rec x2 x3 σ = some t) : fkI ms_cRea_readExpression fs_cRea_readExpression σ0 t := by
  unfold p_cRea_readAtom_97 at h
  obtain ⟨q3, hq, h⟩ := Option.bind_eq_some_iff.mp h
  have f_q3 := jFr.step h0 (f_cRea_pass σ x3 σ jFr.rfl q3 hq) (by decide +kernel) (by decide +kernel)
  obtain ⟨q4, hq, h⟩ := Option.bind_eq_some_iff.mp h
  have f_q4 := jFr.step f_q3 (f_cRea_addNode q3 x3 x2 (0 : Int32) (0 : Int32) (0 : Int32) (0 : Int32) q3 jFr.rfl q4 hq) (by decide +kernel) (by decide +kernel)
  have h9 := Option.some.inj h
  subst h9
  exact f_q4
theorem f_cRea_readAtom (rec : (Int32 → jx_S → Option (Int32 × jx_S))) (hrec : ∀ z0 s r, rec z0 s = some r → jFr ms_cRea_readExpression fs_cRea_readExpression s r.2) (σ0 : jx_S) (x1 : Int32) (σ : jx_S) (h0 : jFr ms_cRea_readExpression fs_cRea_readExpression σ0 σ) (t : (Int32 × jx_S)) (h : p_cRea_readAtom rec x1 σ = some t) : fkI ms_cRea_readExpression fs_cRea_readExpression σ0 t := by
  unfold p_cRea_readAtom at h
  rcases Classical.em ((v_cRea_kind σ) = 1) with hc0 | hc0
  · rw [if_pos hc0] at h
    obtain ⟨q1, hq, h⟩ := Option.bind_eq_some_iff.mp h
    have f_q1 := jFr.step h0 (f_cRea_pass σ (1 : Int32) σ jFr.rfl q1 hq) (by decide +kernel) (by decide +kernel)
    obtain ⟨q2, hq, h⟩ := Option.bind_eq_some_iff.mp h
    have f_q2 := jFr.step f_q1 (f_cRea_addName q1 (σ.1 5 6) (0 : Int32) (0 : Int32) q1 jFr.rfl q2 hq) (by decide +kernel) (by decide +kernel)
    have h9 := Option.some.inj h
    subst h9
    exact f_q2
  · rw [if_neg hc0] at h
    rcases Classical.em ((v_cRea_kind σ) = 2) with hc1 | hc1
    · rw [if_pos hc1] at h
      exact f_cRea_readAtom_97 rec hrec σ0 (σ.1 5 6) (v_cRea_kind σ) σ h0 _ h
    · rw [if_neg hc1] at h
      rcases Classical.em ((v_cRea_kind σ) = 13) with hc2 | hc2
      · rw [if_pos hc2] at h
        exact f_cRea_readAtom_97 rec hrec σ0 (σ.1 5 6) (v_cRea_kind σ) σ h0 _ h
      · rw [if_neg hc2] at h
        rcases Classical.em ((v_cRea_kind σ) = 15) with hc3 | hc3
        · rw [if_pos hc3] at h
          exact f_cRea_readAtom_97 rec hrec σ0 (σ.1 5 6) (v_cRea_kind σ) σ h0 _ h
        · rw [if_neg hc3] at h
          rcases Classical.em ((v_cRea_kind σ) = 16) with hc4 | hc4
          · rw [if_pos hc4] at h
            obtain ⟨q5, hq, h⟩ := Option.bind_eq_some_iff.mp h
            have f_q5 := jFr.step h0 (f_cRea_pass σ (16 : Int32) σ jFr.rfl q5 hq) (by decide +kernel) (by decide +kernel)
            obtain ⟨q6, hq, h⟩ := Option.bind_eq_some_iff.mp h
            have f_q6 := jFr.step f_q5 (hrec (x1 + (1 : Int32)) q5 q6 hq) (by decide +kernel) (by decide +kernel)
            obtain ⟨q7, hq, h⟩ := Option.bind_eq_some_iff.mp h
            have f_q7 := jFr.step f_q6 (f_cRea_pass q6.2 (17 : Int32) q6.2 jFr.rfl q7 hq) (by decide +kernel) (by decide +kernel)
            have h9 := Option.some.inj h
            subst h9
            exact f_q7
          · rw [if_neg hc4] at h
            obtain ⟨q8, hq, h⟩ := Option.bind_eq_some_iff.mp h
            have f_q8 := jFr.step h0 (f_cRea_tell σ (2 : Int32) σ jFr.rfl q8 hq) (by decide +kernel) (by decide +kernel)
            have h9 := Option.some.inj h
            subst h9
            exact f_q8
def fk_cRea_readCall_72 (σ0 : jx_S) (t : ((Int32 × Int32 × Int32 × Int32 × Int32 × Int32 × jx_S) ⊕ (Int32 × jx_S))) : Prop := match t with
  | .inl s => jFr ms_cRea_readExpression fs_cRea_readExpression σ0 (s.2.2.2.2.2.2)
  | .inr t => fkI ms_cRea_readExpression fs_cRea_readExpression σ0 t
theorem f_cRea_readCall_135 (rec : (Int32 → jx_S → Option (Int32 × jx_S))) (hrec : ∀ z0 s r, rec z0 s = some r → jFr ms_cRea_readExpression fs_cRea_readExpression s r.2) (σ0 : jx_S) (x2 : Int32) (x3 : Int32) (x5 : Int32) (σ : jx_S) (h0 : jFr ms_cRea_readExpression fs_cRea_readExpression σ0 σ) (t : (Int32 × jx_S)) (h : p_cRea_readCall_135 rec x2 x3 x5 σ = some t) : fkI ms_cRea_readExpression fs_cRea_readExpression σ0 t := by
  unfold p_cRea_readCall_135 at h
  obtain ⟨q2, hq, h⟩ := Option.bind_eq_some_iff.mp h
  have f_q2 := jFr.step h0 (f_cRea_addName σ x2 x3 x5 σ jFr.rfl q2 hq) (by decide +kernel) (by decide +kernel)
  have h9 := Option.some.inj h
  subst h9
  exact f_q2
theorem f_cRea_readCall_122 (rec : (Int32 → jx_S → Option (Int32 × jx_S))) (hrec : ∀ z0 s r, rec z0 s = some r → jFr ms_cRea_readExpression fs_cRea_readExpression s r.2) (σ0 : jx_S) (x1 : Int32) (x2 : Int32) (x3 : Int32) (x5 : Int32) (x6 : Int32) (x7 : Int32) (σ : jx_S) (h0 : jFr ms_cRea_readExpression fs_cRea_readExpression σ0 σ) (t : ((Int32 × Int32 × Int32 × Int32 × Int32 × Int32 × jx_S) ⊕ (Int32 × jx_S))) (h : p_cRea_readCall_122 rec x1 x2 x3 x5 x6 x7 σ = some t) : fk_cRea_readCall_72 σ0 t := by
  unfold p_cRea_readCall_122 at h
  have h9 := Option.some.inj h
  subst h9
  exact h0
theorem f_cRea_readCall_72_s (rec : (Int32 → jx_S → Option (Int32 × jx_S))) (hrec : ∀ z0 s r, rec z0 s = some r → jFr ms_cRea_readExpression fs_cRea_readExpression s r.2) (σ0 : jx_S) (x1 : Int32) (x2 : Int32) (x3 : Int32) (x4 : Int32) (x5 : Int32) (x6 : Int32) (σ : jx_S) (h0 : jFr ms_cRea_readExpression fs_cRea_readExpression σ0 σ) (t : ((Int32 × Int32 × Int32 × Int32 × Int32 × Int32 × jx_S) ⊕ (Int32 × jx_S))) (h : p_cRea_readCall_72_s rec x1 x2 x3 x4 x5 x6 σ = some t) : fk_cRea_readCall_72 σ0 t := by
  unfold p_cRea_readCall_72_s at h
  rcases Classical.em ((1200 : Int32) ≤ x6) with hc | hc
  · rw [if_pos hc] at h
    obtain ⟨t9_3, h9_3, h8_3⟩ := Option.map_eq_some_iff.mp h
    clear h
    subst h8_3
    have h := h9_3
    clear h9_3
    exact f_cRea_readCall_135 rec hrec σ0 x2 x3 x5 σ h0 _ h
  · rw [if_neg hc] at h
    rcases Classical.em ((v_cRea_beginsAtom (v_cRea_kind σ) σ) = 0) with hc | hc
    · rw [if_pos hc] at h
      obtain ⟨t9_4, h9_4, h8_4⟩ := Option.map_eq_some_iff.mp h
      clear h
      subst h8_4
      have h := h9_4
      clear h9_4
      exact f_cRea_readCall_135 rec hrec σ0 x2 x3 x5 σ h0 _ h
    · rw [if_neg hc] at h
      obtain ⟨q5, hq, h⟩ := Option.bind_eq_some_iff.mp h
      have f_q5 := jFr.step h0 (f_cRea_readAtom rec hrec σ x1 σ jFr.rfl q5 hq) (by decide +kernel) (by decide +kernel)
      rcases Classical.em (¬ x5 = 0) with hc | hc
      · rw [if_pos hc] at h
        exact f_cRea_readCall_122 rec hrec σ0 x1 x2 x3 x5 x6 q5.1 (jI_put 1201 q5.2 29 x4 q5.1) (jFr.ip f_q5 (by decide)) _ h
      · rw [if_neg hc] at h
        exact f_cRea_readCall_122 rec hrec σ0 x1 x2 q5.1 x5 x6 q5.1 q5.2 f_q5 _ h
theorem f_cRea_readCall_72 (rec : (Int32 → jx_S → Option (Int32 × jx_S))) (hrec : ∀ z0 s r, rec z0 s = some r → jFr ms_cRea_readExpression fs_cRea_readExpression s r.2) (σ0 : jx_S) (x1 : Int32) (x2 : Int32) (x3 : Int32) (x4 : Int32) (x5 : Int32) (x6 : Int32) (σ : jx_S) (h0 : jFr ms_cRea_readExpression fs_cRea_readExpression σ0 σ) (t : (Int32 × jx_S)) (h : p_cRea_readCall_72 rec x1 x2 x3 x4 x5 x6 σ = some t) : fkI ms_cRea_readExpression fs_cRea_readExpression σ0 t := by
  refine jx_loop_ok (E := fun s t => jFr ms_cRea_readExpression fs_cRea_readExpression σ0 (s.2.2.2.2.2.2) → fkI ms_cRea_readExpression fs_cRea_readExpression σ0 t) (fun s t hs => ?_) _ _ _ h h0
  cases t with
  | inl s1 => exact fun b hb hf => hb (f_cRea_readCall_72_s rec hrec σ0 (s.1) (s.2.1) (s.2.2.1) (s.2.2.2.1) (s.2.2.2.2.1) (s.2.2.2.2.2.1) (s.2.2.2.2.2.2) hf _ hs)
  | inr b => exact fun hf => f_cRea_readCall_72_s rec hrec σ0 (s.1) (s.2.1) (s.2.2.1) (s.2.2.2.1) (s.2.2.2.2.1) (s.2.2.2.2.2.1) (s.2.2.2.2.2.2) hf _ hs
theorem f_cRea_readCall (rec : (Int32 → jx_S → Option (Int32 × jx_S))) (hrec : ∀ z0 s r, rec z0 s = some r → jFr ms_cRea_readExpression fs_cRea_readExpression s r.2) (σ0 : jx_S) (x1 : Int32) (σ : jx_S) (h0 : jFr ms_cRea_readExpression fs_cRea_readExpression σ0 σ) (t : (Int32 × jx_S)) (h : p_cRea_readCall rec x1 σ = some t) : fkI ms_cRea_readExpression fs_cRea_readExpression σ0 t := by
  unfold p_cRea_readCall at h
  rcases Classical.em (¬ (v_cRea_kind σ) = (14 : Int32)) with hc | hc
  · rw [if_pos hc] at h
    rcases Classical.em ((v_cRea_kind σ) = (1 : Int32)) with hc | hc
    · rw [if_pos hc] at h
      obtain ⟨q1, hq, h⟩ := Option.bind_eq_some_iff.mp h
      have f_q1 := jFr.step h0 (f_cRea_pass σ (1 : Int32) σ jFr.rfl q1 hq) (by decide +kernel) (by decide +kernel)
      exact f_cRea_readCall_72 rec hrec σ0 x1 (σ.1 5 6) (0 : Int32) (0 : Int32) (0 : Int32) (0 : Int32) q1 f_q1 _ h
    · rw [if_neg hc] at h
      obtain ⟨q6, hq, h⟩ := Option.bind_eq_some_iff.mp h
      have f_q6 := jFr.step h0 (f_cRea_readAtom rec hrec σ x1 σ jFr.rfl q6 hq) (by decide +kernel) (by decide +kernel)
      have h9 := Option.some.inj h
      subst h9
      exact f_q6
  · rw [if_neg hc] at h
    obtain ⟨q7, hq, h⟩ := Option.bind_eq_some_iff.mp h
    have f_q7 := jFr.step h0 (f_cRea_pass σ (14 : Int32) σ jFr.rfl q7 hq) (by decide +kernel) (by decide +kernel)
    obtain ⟨q8, hq, h⟩ := Option.bind_eq_some_iff.mp h
    have f_q8 := jFr.step f_q7 (f_cRea_readAtom rec hrec q7 x1 q7 jFr.rfl q8 hq) (by decide +kernel) (by decide +kernel)
    obtain ⟨q9, hq, h⟩ := Option.bind_eq_some_iff.mp h
    have f_q9 := jFr.step f_q8 (f_cRea_readAtom rec hrec q8.2 x1 q8.2 jFr.rfl q9 hq) (by decide +kernel) (by decide +kernel)
    obtain ⟨q10, hq, h⟩ := Option.bind_eq_some_iff.mp h
    have f_q10 := jFr.step f_q9 (f_cRea_addNode q9.2 (14 : Int32) (σ.1 5 6) (0 : Int32) q8.1 q9.1 (0 : Int32) q9.2 jFr.rfl q10 hq) (by decide +kernel) (by decide +kernel)
    have h9 := Option.some.inj h
    subst h9
    exact f_q10
def ms_cRea_passSign : List Nat := []
def fs_cRea_passSign : List (Nat × Nat) := [(1, 0), (1, 1), (5, 6)]
theorem f_cRea_passSign_16 (σ0 : jx_S) (x2 : Int32) (σ : jx_S) (h0 : jFr ms_cRea_passSign fs_cRea_passSign σ0 σ) (t : (Int32 × jx_S)) (h : p_cRea_passSign_16 x2 σ = some t) : fkI ms_cRea_passSign fs_cRea_passSign σ0 t := by
  unfold p_cRea_passSign_16 at h
  obtain ⟨q1, hq, h⟩ := Option.bind_eq_some_iff.mp h
  have f_q1 := jFr.step h0 (f_cRea_pass σ x2 σ jFr.rfl q1 hq) (by decide +kernel) (by decide +kernel)
  have h9 := Option.some.inj h
  subst h9
  exact f_q1
theorem f_cRea_passSign (σ0 : jx_S) (x1 : Int32) (σ : jx_S) (h0 : jFr ms_cRea_passSign fs_cRea_passSign σ0 σ) (t : (Int32 × jx_S)) (h : p_cRea_passSign x1 σ = some t) : fkI ms_cRea_passSign fs_cRea_passSign σ0 t := by
  unfold p_cRea_passSign at h
  rcases Classical.em (¬ x1 = (10 : Int32)) with hc | hc
  · rw [if_pos hc] at h
    exact f_cRea_passSign_16 σ0 (v_cRea_kind σ) σ h0 _ h
  · rw [if_neg hc] at h
    obtain ⟨q2, hq, h⟩ := Option.bind_eq_some_iff.mp h
    have f_q2 := jFr.step h0 (f_cRea_tell σ (3 : Int32) σ jFr.rfl q2 hq) (by decide +kernel) (by decide +kernel)
    exact f_cRea_passSign_16 σ0 (v_cRea_kind σ) q2 f_q2 _ h
def fk_cRea_readTerm_8 (σ0 : jx_S) (t : ((Int32 × Int32 × Int32 × jx_S) ⊕ (Int32 × jx_S))) : Prop := match t with
  | .inl s => jFr ms_cRea_readExpression fs_cRea_readExpression σ0 (s.2.2.2)
  | .inr t => fkI ms_cRea_readExpression fs_cRea_readExpression σ0 t
theorem f_cRea_readTerm_32 (rec : (Int32 → jx_S → Option (Int32 × jx_S))) (hrec : ∀ z0 s r, rec z0 s = some r → jFr ms_cRea_readExpression fs_cRea_readExpression s r.2) (σ0 : jx_S) (x1 : Int32) (x2 : Int32) (x3 : Int32) (σ : jx_S) (h0 : jFr ms_cRea_readExpression fs_cRea_readExpression σ0 σ) (t : ((Int32 × Int32 × Int32 × jx_S) ⊕ (Int32 × jx_S))) (h : p_cRea_readTerm_32 rec x1 x2 x3 σ = some t) : fk_cRea_readTerm_8 σ0 t := by
  unfold p_cRea_readTerm_32 at h
  obtain ⟨q3, hq, h⟩ := Option.bind_eq_some_iff.mp h
  have f_q3 := jFr.step h0 (f_cRea_passSign σ x3 σ jFr.rfl q3 hq) (by decide +kernel) (by decide +kernel)
  obtain ⟨q4, hq, h⟩ := Option.bind_eq_some_iff.mp h
  have f_q4 := jFr.step f_q3 (f_cRea_readCall rec hrec q3.2 x1 q3.2 jFr.rfl q4 hq) (by decide +kernel) (by decide +kernel)
  obtain ⟨q5, hq, h⟩ := Option.bind_eq_some_iff.mp h
  have f_q5 := jFr.step f_q4 (f_cRea_addNode q4.2 q3.1 (σ.1 5 6) (0 : Int32) x2 q4.1 (0 : Int32) q4.2 jFr.rfl q5 hq) (by decide +kernel) (by decide +kernel)
  have h9 := Option.some.inj h
  subst h9
  exact f_q5
theorem f_cRea_readTerm_8_s (rec : (Int32 → jx_S → Option (Int32 × jx_S))) (hrec : ∀ z0 s r, rec z0 s = some r → jFr ms_cRea_readExpression fs_cRea_readExpression s r.2) (σ0 : jx_S) (x1 : Int32) (x2 : Int32) (x3 : Int32) (σ : jx_S) (h0 : jFr ms_cRea_readExpression fs_cRea_readExpression σ0 σ) (t : ((Int32 × Int32 × Int32 × jx_S) ⊕ (Int32 × jx_S))) (h : p_cRea_readTerm_8_s rec x1 x2 x3 σ = some t) : fk_cRea_readTerm_8 σ0 t := by
  unfold p_cRea_readTerm_8_s at h
  rcases Classical.em ((10 : Int32) < x3) with hc | hc
  · rw [if_pos hc] at h
    obtain ⟨t9_2, h9_2, h8_2⟩ := Option.map_eq_some_iff.mp h
    clear h
    subst h8_2
    have h := h9_2
    clear h9_2
    have h9 := Option.some.inj h
    subst h9
    exact h0
  · rw [if_neg hc] at h
    rcases Classical.em ((v_cRea_kind σ) = (25 : Int32)) with hc | hc
    · rw [if_pos hc] at h
      exact f_cRea_readTerm_32 rec hrec σ0 x1 x2 x3 σ h0 _ h
    · rw [if_neg hc] at h
      rcases Classical.em (¬ (v_cRea_kind σ) = (26 : Int32)) with hc | hc
      · rw [if_pos hc] at h
        obtain ⟨t9_6, h9_6, h8_6⟩ := Option.map_eq_some_iff.mp h
        clear h
        subst h8_6
        have h := h9_6
        clear h9_6
        have h9 := Option.some.inj h
        subst h9
        exact h0
      · rw [if_neg hc] at h
        exact f_cRea_readTerm_32 rec hrec σ0 x1 x2 x3 σ h0 _ h
theorem f_cRea_readTerm_8 (rec : (Int32 → jx_S → Option (Int32 × jx_S))) (hrec : ∀ z0 s r, rec z0 s = some r → jFr ms_cRea_readExpression fs_cRea_readExpression s r.2) (σ0 : jx_S) (x1 : Int32) (x2 : Int32) (x3 : Int32) (σ : jx_S) (h0 : jFr ms_cRea_readExpression fs_cRea_readExpression σ0 σ) (t : (Int32 × jx_S)) (h : p_cRea_readTerm_8 rec x1 x2 x3 σ = some t) : fkI ms_cRea_readExpression fs_cRea_readExpression σ0 t := by
  refine jx_loop_ok (E := fun s t => jFr ms_cRea_readExpression fs_cRea_readExpression σ0 (s.2.2.2) → fkI ms_cRea_readExpression fs_cRea_readExpression σ0 t) (fun s t hs => ?_) _ _ _ h h0
  cases t with
  | inl s1 => exact fun b hb hf => hb (f_cRea_readTerm_8_s rec hrec σ0 (s.1) (s.2.1) (s.2.2.1) (s.2.2.2) hf _ hs)
  | inr b => exact fun hf => f_cRea_readTerm_8_s rec hrec σ0 (s.1) (s.2.1) (s.2.2.1) (s.2.2.2) hf _ hs
theorem f_cRea_readTerm (rec : (Int32 → jx_S → Option (Int32 × jx_S))) (hrec : ∀ z0 s r, rec z0 s = some r → jFr ms_cRea_readExpression fs_cRea_readExpression s r.2) (σ0 : jx_S) (x1 : Int32) (σ : jx_S) (h0 : jFr ms_cRea_readExpression fs_cRea_readExpression σ0 σ) (t : (Int32 × jx_S)) (h : p_cRea_readTerm rec x1 σ = some t) : fkI ms_cRea_readExpression fs_cRea_readExpression σ0 t := by
  unfold p_cRea_readTerm at h
  obtain ⟨q1, hq, h⟩ := Option.bind_eq_some_iff.mp h
  have f_q1 := jFr.step h0 (f_cRea_readCall rec hrec σ x1 σ jFr.rfl q1 hq) (by decide +kernel) (by decide +kernel)
  exact f_cRea_readTerm_8 rec hrec σ0 x1 q1.1 (0 : Int32) q1.2 f_q1 _ h
def fk_cRea_readSum_8 (σ0 : jx_S) (t : ((Int32 × Int32 × Int32 × jx_S) ⊕ (Int32 × jx_S))) : Prop := match t with
  | .inl s => jFr ms_cRea_readExpression fs_cRea_readExpression σ0 (s.2.2.2)
  | .inr t => fkI ms_cRea_readExpression fs_cRea_readExpression σ0 t
theorem f_cRea_readSum_32 (rec : (Int32 → jx_S → Option (Int32 × jx_S))) (hrec : ∀ z0 s r, rec z0 s = some r → jFr ms_cRea_readExpression fs_cRea_readExpression s r.2) (σ0 : jx_S) (x1 : Int32) (x2 : Int32) (x3 : Int32) (σ : jx_S) (h0 : jFr ms_cRea_readExpression fs_cRea_readExpression σ0 σ) (t : ((Int32 × Int32 × Int32 × jx_S) ⊕ (Int32 × jx_S))) (h : p_cRea_readSum_32 rec x1 x2 x3 σ = some t) : fk_cRea_readSum_8 σ0 t := by
  unfold p_cRea_readSum_32 at h
  obtain ⟨q3, hq, h⟩ := Option.bind_eq_some_iff.mp h
  have f_q3 := jFr.step h0 (f_cRea_passSign σ x3 σ jFr.rfl q3 hq) (by decide +kernel) (by decide +kernel)
  obtain ⟨q4, hq, h⟩ := Option.bind_eq_some_iff.mp h
  have f_q4 := jFr.step f_q3 (f_cRea_readTerm rec hrec q3.2 x1 q3.2 jFr.rfl q4 hq) (by decide +kernel) (by decide +kernel)
  obtain ⟨q5, hq, h⟩ := Option.bind_eq_some_iff.mp h
  have f_q5 := jFr.step f_q4 (f_cRea_addNode q4.2 q3.1 (σ.1 5 6) (0 : Int32) x2 q4.1 (0 : Int32) q4.2 jFr.rfl q5 hq) (by decide +kernel) (by decide +kernel)
  have h9 := Option.some.inj h
  subst h9
  exact f_q5
theorem f_cRea_readSum_8_s (rec : (Int32 → jx_S → Option (Int32 × jx_S))) (hrec : ∀ z0 s r, rec z0 s = some r → jFr ms_cRea_readExpression fs_cRea_readExpression s r.2) (σ0 : jx_S) (x1 : Int32) (x2 : Int32) (x3 : Int32) (σ : jx_S) (h0 : jFr ms_cRea_readExpression fs_cRea_readExpression σ0 σ) (t : ((Int32 × Int32 × Int32 × jx_S) ⊕ (Int32 × jx_S))) (h : p_cRea_readSum_8_s rec x1 x2 x3 σ = some t) : fk_cRea_readSum_8 σ0 t := by
  unfold p_cRea_readSum_8_s at h
  rcases Classical.em ((10 : Int32) < x3) with hc | hc
  · rw [if_pos hc] at h
    obtain ⟨t9_2, h9_2, h8_2⟩ := Option.map_eq_some_iff.mp h
    clear h
    subst h8_2
    have h := h9_2
    clear h9_2
    have h9 := Option.some.inj h
    subst h9
    exact h0
  · rw [if_neg hc] at h
    rcases Classical.em ((v_cRea_kind σ) = (23 : Int32)) with hc | hc
    · rw [if_pos hc] at h
      exact f_cRea_readSum_32 rec hrec σ0 x1 x2 x3 σ h0 _ h
    · rw [if_neg hc] at h
      rcases Classical.em (¬ (v_cRea_kind σ) = (24 : Int32)) with hc | hc
      · rw [if_pos hc] at h
        obtain ⟨t9_6, h9_6, h8_6⟩ := Option.map_eq_some_iff.mp h
        clear h
        subst h8_6
        have h := h9_6
        clear h9_6
        have h9 := Option.some.inj h
        subst h9
        exact h0
      · rw [if_neg hc] at h
        exact f_cRea_readSum_32 rec hrec σ0 x1 x2 x3 σ h0 _ h
theorem f_cRea_readSum_8 (rec : (Int32 → jx_S → Option (Int32 × jx_S))) (hrec : ∀ z0 s r, rec z0 s = some r → jFr ms_cRea_readExpression fs_cRea_readExpression s r.2) (σ0 : jx_S) (x1 : Int32) (x2 : Int32) (x3 : Int32) (σ : jx_S) (h0 : jFr ms_cRea_readExpression fs_cRea_readExpression σ0 σ) (t : (Int32 × jx_S)) (h : p_cRea_readSum_8 rec x1 x2 x3 σ = some t) : fkI ms_cRea_readExpression fs_cRea_readExpression σ0 t := by
  refine jx_loop_ok (E := fun s t => jFr ms_cRea_readExpression fs_cRea_readExpression σ0 (s.2.2.2) → fkI ms_cRea_readExpression fs_cRea_readExpression σ0 t) (fun s t hs => ?_) _ _ _ h h0
  cases t with
  | inl s1 => exact fun b hb hf => hb (f_cRea_readSum_8_s rec hrec σ0 (s.1) (s.2.1) (s.2.2.1) (s.2.2.2) hf _ hs)
  | inr b => exact fun hf => f_cRea_readSum_8_s rec hrec σ0 (s.1) (s.2.1) (s.2.2.1) (s.2.2.2) hf _ hs
theorem f_cRea_readSum (rec : (Int32 → jx_S → Option (Int32 × jx_S))) (hrec : ∀ z0 s r, rec z0 s = some r → jFr ms_cRea_readExpression fs_cRea_readExpression s r.2) (σ0 : jx_S) (x1 : Int32) (σ : jx_S) (h0 : jFr ms_cRea_readExpression fs_cRea_readExpression σ0 σ) (t : (Int32 × jx_S)) (h : p_cRea_readSum rec x1 σ = some t) : fkI ms_cRea_readExpression fs_cRea_readExpression σ0 t := by
  unfold p_cRea_readSum at h
  obtain ⟨q1, hq, h⟩ := Option.bind_eq_some_iff.mp h
  have f_q1 := jFr.step h0 (f_cRea_readTerm rec hrec σ x1 σ jFr.rfl q1 hq) (by decide +kernel) (by decide +kernel)
  exact f_cRea_readSum_8 rec hrec σ0 x1 q1.1 (0 : Int32) q1.2 f_q1 _ h
theorem f_cRea_readComparison_26 (rec : (Int32 → jx_S → Option (Int32 × jx_S))) (hrec : ∀ z0 s r, rec z0 s = some r → jFr ms_cRea_readExpression fs_cRea_readExpression s r.2) (σ0 : jx_S) (x1 : Int32) (x2 : Int32) (σ : jx_S) (h0 : jFr ms_cRea_readExpression fs_cRea_readExpression σ0 σ) (t : (Int32 × jx_S)) (h : p_cRea_readComparison_26 rec x1 x2 σ = some t) : fkI ms_cRea_readExpression fs_cRea_readExpression σ0 t := by
  unfold p_cRea_readComparison_26 at h
  obtain ⟨q2, hq, h⟩ := Option.bind_eq_some_iff.mp h
  have f_q2 := jFr.step h0 (f_cRea_pass σ (v_cRea_kind σ) σ jFr.rfl q2 hq) (by decide +kernel) (by decide +kernel)
  obtain ⟨q3, hq, h⟩ := Option.bind_eq_some_iff.mp h
  have f_q3 := jFr.step f_q2 (f_cRea_readSum rec hrec q2 x1 q2 jFr.rfl q3 hq) (by decide +kernel) (by decide +kernel)
  obtain ⟨q4, hq, h⟩ := Option.bind_eq_some_iff.mp h
  have f_q4 := jFr.step f_q3 (f_cRea_addNode q3.2 (v_cRea_kind σ) (σ.1 5 6) (0 : Int32) x2 q3.1 (0 : Int32) q3.2 jFr.rfl q4 hq) (by decide +kernel) (by decide +kernel)
  have h9 := Option.some.inj h
  subst h9
  exact f_q4
theorem f_cRea_readComparison (rec : (Int32 → jx_S → Option (Int32 × jx_S))) (hrec : ∀ z0 s r, rec z0 s = some r → jFr ms_cRea_readExpression fs_cRea_readExpression s r.2) (σ0 : jx_S) (x1 : Int32) (σ : jx_S) (h0 : jFr ms_cRea_readExpression fs_cRea_readExpression σ0 σ) (t : (Int32 × jx_S)) (h : p_cRea_readComparison rec x1 σ = some t) : fkI ms_cRea_readExpression fs_cRea_readExpression σ0 t := by
  unfold p_cRea_readComparison at h
  obtain ⟨q1, hq, h⟩ := Option.bind_eq_some_iff.mp h
  have f_q1 := jFr.step h0 (f_cRea_readSum rec hrec σ x1 σ jFr.rfl q1 hq) (by decide +kernel) (by decide +kernel)
  rcases Classical.em ((v_cRea_kind q1.2) = (19 : Int32)) with hc | hc
  · rw [if_pos hc] at h
    exact f_cRea_readComparison_26 rec hrec σ0 x1 q1.1 q1.2 f_q1 _ h
  · rw [if_neg hc] at h
    rcases Classical.em ((v_cRea_kind q1.2) = (27 : Int32)) with hc | hc
    · rw [if_pos hc] at h
      exact f_cRea_readComparison_26 rec hrec σ0 x1 q1.1 q1.2 f_q1 _ h
    · rw [if_neg hc] at h
      have h9 := Option.some.inj h
      subst h9
      exact f_q1
theorem f_cRea_readExpression_b (rec : (Int32 → jx_S → Option (Int32 × jx_S))) (hrec : ∀ z0 s r, rec z0 s = some r → jFr ms_cRea_readExpression fs_cRea_readExpression s r.2) (σ0 : jx_S) (x1 : Int32) (σ : jx_S) (h0 : jFr ms_cRea_readExpression fs_cRea_readExpression σ0 σ) (t : (Int32 × jx_S)) (h : p_cRea_readExpression_b rec x1 σ = some t) : fkI ms_cRea_readExpression fs_cRea_readExpression σ0 t := by
  unfold p_cRea_readExpression_b at h
  rcases Classical.em (x1 ≤ (29 : Int32)) with hc | hc
  · rw [if_pos hc] at h
    rcases Classical.em ((v_cRea_kind σ) = 5) with hc0 | hc0
    · rw [if_pos hc0] at h
      obtain ⟨q1, hq, h⟩ := Option.bind_eq_some_iff.mp h
      have f_q1 := jFr.step h0 (f_cRea_readLet rec hrec σ x1 σ jFr.rfl q1 hq) (by decide +kernel) (by decide +kernel)
      have h9 := Option.some.inj h
      subst h9
      exact f_q1
    · rw [if_neg hc0] at h
      rcases Classical.em ((v_cRea_kind σ) = 7) with hc1 | hc1
      · rw [if_pos hc1] at h
        obtain ⟨q2, hq, h⟩ := Option.bind_eq_some_iff.mp h
        have f_q2 := jFr.step h0 (f_cRea_readIf rec hrec σ x1 σ jFr.rfl q2 hq) (by decide +kernel) (by decide +kernel)
        have h9 := Option.some.inj h
        subst h9
        exact f_q2
      · rw [if_neg hc1] at h
        rcases Classical.em ((v_cRea_kind σ) = 10) with hc2 | hc2
        · rw [if_pos hc2] at h
          obtain ⟨q3, hq, h⟩ := Option.bind_eq_some_iff.mp h
          have f_q3 := jFr.step h0 (f_cRea_readCase rec hrec σ x1 σ jFr.rfl q3 hq) (by decide +kernel) (by decide +kernel)
          have h9 := Option.some.inj h
          subst h9
          exact f_q3
        · rw [if_neg hc2] at h
          obtain ⟨q4, hq, h⟩ := Option.bind_eq_some_iff.mp h
          have f_q4 := jFr.step h0 (f_cRea_readComparison rec hrec σ x1 σ jFr.rfl q4 hq) (by decide +kernel) (by decide +kernel)
          have h9 := Option.some.inj h
          subst h9
          exact f_q4
  · rw [if_neg hc] at h
    obtain ⟨q5, hq, h⟩ := Option.bind_eq_some_iff.mp h
    have f_q5 := jFr.step h0 (f_cRea_tell σ (3 : Int32) σ jFr.rfl q5 hq) (by decide +kernel) (by decide +kernel)
    have h9 := Option.some.inj h
    subst h9
    exact f_q5
theorem f_cRea_readExpression : ∀ (n : Nat) (σ0 : jx_S) (x1 : Int32) (σ : jx_S) (h0 : jFr ms_cRea_readExpression fs_cRea_readExpression σ0 σ) (t : (Int32 × jx_S)) (h : p_cRea_readExpression n x1 σ = some t), fkI ms_cRea_readExpression fs_cRea_readExpression σ0 t := by
  intro n
  induction n with
  | zero => intro σ0 x1 σ h0 t h; cases h
  | succ n ih =>
    intro σ0 x1 σ h0 t h
    exact f_cRea_readExpression_b (p_cRea_readExpression n) (fun z0 s r hr => ih s z0 s jFr.rfl r hr) σ0 x1 σ h0 t h
def ms_cRea_readFunction : List Nat := [23, 25, 27, 29, 31, 33, 35, 37, 39, 41, 43, 45, 47, 49, 51, 53, 55, 57, 59, 61]
def fs_cRea_readFunction : List (Nat × Nat) := [(1, 0), (1, 1), (3, 9), (4, 10), (5, 5), (5, 6), (5, 7)]
def fk_cRea_readFunction_63 (σ0 : jx_S) (t : ((Int32 × Int32 × jx_S) ⊕ jx_S)) : Prop := match t with
  | .inl s => jFr ms_cRea_readFunction fs_cRea_readFunction σ0 (s.2.2)
  | .inr t => fkV ms_cRea_readFunction fs_cRea_readFunction σ0 t
theorem f_cRea_readFunction_89 (σ0 : jx_S) (x1 : Int32) (σ : jx_S) (h0 : jFr ms_cRea_readFunction fs_cRea_readFunction σ0 σ) (t : jx_S) (h : p_cRea_readFunction_89 x1 σ = some t) : fkV ms_cRea_readFunction fs_cRea_readFunction σ0 t := by
  unfold p_cRea_readFunction_89 at h
  obtain ⟨q3, hq, h⟩ := Option.bind_eq_some_iff.mp h
  have f_q3 := jFr.step h0 (f_cRea_pass σ (18 : Int32) σ jFr.rfl q3 hq) (by decide +kernel) (by decide +kernel)
  obtain ⟨q4, hq, h⟩ := Option.bind_eq_some_iff.mp h
  have f_q4 := jFr.step f_q3 (f_cRea_readBase q3 q3 jFr.rfl q4 hq) (by decide +kernel) (by decide +kernel)
  obtain ⟨q5, hq, h⟩ := Option.bind_eq_some_iff.mp h
  have f_q5 := jFr.step (jFr.ip f_q4 (by decide)) (f_cRea_pass (jI_put 40 q4.2 45 x1 q4.1) (19 : Int32) (jI_put 40 q4.2 45 x1 q4.1) jFr.rfl q5 hq) (by decide +kernel) (by decide +kernel)
  obtain ⟨q6, hq, h⟩ := Option.bind_eq_some_iff.mp h
  have f_q6 := jFr.step f_q5 (f_cRea_readExpression 33 q5 (0 : Int32) q5 jFr.rfl q6 hq) (by decide +kernel) (by decide +kernel)
  obtain ⟨q7, hq, h⟩ := Option.bind_eq_some_iff.mp h
  have f_q7 := jFr.step (jFr.ip f_q6 (by decide)) (f_cRea_pass (jI_put 40 q6.2 51 x1 q6.1) (20 : Int32) (jI_put 40 q6.2 51 x1 q6.1) jFr.rfl q7 hq) (by decide +kernel) (by decide +kernel)
  have h9 := Option.some.inj h
  subst h9
  exact f_q7
theorem f_cRea_readFunction_63_s (σ0 : jx_S) (x1 : Int32) (x2 : Int32) (σ : jx_S) (h0 : jFr ms_cRea_readFunction fs_cRea_readFunction σ0 σ) (t : ((Int32 × Int32 × jx_S) ⊕ jx_S)) (h : p_cRea_readFunction_63_s x1 x2 σ = some t) : fk_cRea_readFunction_63 σ0 t := by
  unfold p_cRea_readFunction_63_s at h
  rcases Classical.em ((8 : Int32) < x2) with hc | hc
  · rw [if_pos hc] at h
    obtain ⟨t9_8, h9_8, h8_8⟩ := Option.map_eq_some_iff.mp h
    clear h
    subst h8_8
    have h := h9_8
    clear h9_8
    exact f_cRea_readFunction_89 σ0 x1 σ h0 _ h
  · rw [if_neg hc] at h
    rcases Classical.em (¬ (v_cRea_kind σ) = (16 : Int32)) with hc | hc
    · rw [if_pos hc] at h
      obtain ⟨t9_9, h9_9, h8_9⟩ := Option.map_eq_some_iff.mp h
      clear h
      subst h8_9
      have h := h9_9
      clear h9_9
      exact f_cRea_readFunction_89 σ0 x1 σ h0 _ h
    · rw [if_neg hc] at h
      obtain ⟨q10, hq, h⟩ := Option.bind_eq_some_iff.mp h
      have f_q10 := jFr.step h0 (f_cRea_readParameter σ x2 σ jFr.rfl q10 hq) (by decide +kernel) (by decide +kernel)
      have h9 := Option.some.inj h
      subst h9
      exact f_q10
theorem f_cRea_readFunction_63 (σ0 : jx_S) (x1 : Int32) (x2 : Int32) (σ : jx_S) (h0 : jFr ms_cRea_readFunction fs_cRea_readFunction σ0 σ) (t : jx_S) (h : p_cRea_readFunction_63 x1 x2 σ = some t) : fkV ms_cRea_readFunction fs_cRea_readFunction σ0 t := by
  refine jx_loop_ok (E := fun s t => jFr ms_cRea_readFunction fs_cRea_readFunction σ0 (s.2.2) → fkV ms_cRea_readFunction fs_cRea_readFunction σ0 t) (fun s t hs => ?_) _ _ _ h h0
  cases t with
  | inl s1 => exact fun b hb hf => hb (f_cRea_readFunction_63_s σ0 (s.1) (s.2.1) (s.2.2) hf _ hs)
  | inr b => exact fun hf => f_cRea_readFunction_63_s σ0 (s.1) (s.2.1) (s.2.2) hf _ hs
theorem f_cRea_readFunction (σ0 : jx_S) (x1 : Int32) (σ : jx_S) (h0 : jFr ms_cRea_readFunction fs_cRea_readFunction σ0 σ) (t : jx_S) (h : p_cRea_readFunction x1 σ = some t) : fkV ms_cRea_readFunction fs_cRea_readFunction σ0 t := by
  unfold p_cRea_readFunction at h
  rcases Classical.em ((v_cRea_kind σ) = (1 : Int32)) with hc | hc
  · rw [if_pos hc] at h
    rcases Classical.em (¬ x1 = (40 : Int32)) with hc | hc
    · rw [if_pos hc] at h
      obtain ⟨q1, hq, h⟩ := Option.bind_eq_some_iff.mp h
      have f_q1 := jFr.step (jFr.i (jFr.i h0 (by decide)) (by decide)) (f_cFun_open (jx_i (jx_i σ 5 7 x1) 5 5 (0 : Int32)) (σ.1 5 6) ((σ.1 3 9) + (1 : Int32)) (jx_i (jx_i σ 5 7 x1) 5 5 (0 : Int32)) jFr.rfl q1 hq) (by decide +kernel) (by decide +kernel)
      obtain ⟨q2, hq, h⟩ := Option.bind_eq_some_iff.mp h
      have f_q2 := jFr.step f_q1 (f_cRea_pass q1 (1 : Int32) q1 jFr.rfl q2 hq) (by decide +kernel) (by decide +kernel)
      exact f_cRea_readFunction_63 σ0 x1 (0 : Int32) q2 f_q2 _ h
    · rw [if_neg hc] at h
      obtain ⟨q11, hq, h⟩ := Option.bind_eq_some_iff.mp h
      have f_q11 := jFr.step h0 (f_cRea_tell σ (4 : Int32) σ jFr.rfl q11 hq) (by decide +kernel) (by decide +kernel)
      have h9 := Option.some.inj h
      subst h9
      exact f_q11
  · rw [if_neg hc] at h
    obtain ⟨q12, hq, h⟩ := Option.bind_eq_some_iff.mp h
    have f_q12 := jFr.step h0 (f_cRea_tell σ (2 : Int32) σ jFr.rfl q12 hq) (by decide +kernel) (by decide +kernel)
    have h9 := Option.some.inj h
    subst h9
    exact f_q12
def ms_cRea_readProgram : List Nat := [23, 25, 27, 29, 31, 33, 35, 37, 39, 41, 43, 45, 47, 49, 51, 53, 55, 57, 59, 61]
def fs_cRea_readProgram : List (Nat × Nat) := [(1, 0), (1, 1), (3, 9), (4, 10), (5, 5), (5, 6), (5, 7)]
def fk_cRea_readProgram_23 (σ0 : jx_S) (t : ((Int32 × jx_S) ⊕ jx_S)) : Prop := match t with
  | .inl s => jFr ms_cRea_readProgram fs_cRea_readProgram σ0 (s.2)
  | .inr t => fkV ms_cRea_readProgram fs_cRea_readProgram σ0 t
theorem f_cRea_readProgram_23_s (σ0 : jx_S) (x1 : Int32) (σ : jx_S) (h0 : jFr ms_cRea_readProgram fs_cRea_readProgram σ0 σ) (t : ((Int32 × jx_S) ⊕ jx_S)) (h : p_cRea_readProgram_23_s x1 σ = some t) : fk_cRea_readProgram_23 σ0 t := by
  unfold p_cRea_readProgram_23_s at h
  rcases Classical.em ((40 : Int32) < x1) with hc | hc
  · rw [if_pos hc] at h
    obtain ⟨t9_1, h9_1, h8_1⟩ := Option.map_eq_some_iff.mp h
    clear h
    subst h8_1
    have h := h9_1
    clear h9_1
    have h9 := Option.some.inj h
    subst h9
    exact h0
  · rw [if_neg hc] at h
    rcases Classical.em ((v_cRea_kind σ) = 0) with hc | hc
    · rw [if_pos hc] at h
      obtain ⟨t9_2, h9_2, h8_2⟩ := Option.map_eq_some_iff.mp h
      clear h
      subst h8_2
      have h := h9_2
      clear h9_2
      have h9 := Option.some.inj h
      subst h9
      exact h0
    · rw [if_neg hc] at h
      obtain ⟨q3, hq, h⟩ := Option.bind_eq_some_iff.mp h
      have f_q3 := jFr.step h0 (f_cRea_readFunction σ x1 σ jFr.rfl q3 hq) (by decide +kernel) (by decide +kernel)
      have h9 := Option.some.inj h
      subst h9
      exact f_q3
theorem f_cRea_readProgram_23 (σ0 : jx_S) (x1 : Int32) (σ : jx_S) (h0 : jFr ms_cRea_readProgram fs_cRea_readProgram σ0 σ) (t : jx_S) (h : p_cRea_readProgram_23 x1 σ = some t) : fkV ms_cRea_readProgram fs_cRea_readProgram σ0 t := by
  refine jx_loop_ok (E := fun s t => jFr ms_cRea_readProgram fs_cRea_readProgram σ0 (s.2) → fkV ms_cRea_readProgram fs_cRea_readProgram σ0 t) (fun s t hs => ?_) _ _ _ h h0
  cases t with
  | inl s1 => exact fun b hb hf => hb (f_cRea_readProgram_23_s σ0 (s.1) (s.2) hf _ hs)
  | inr b => exact fun hf => f_cRea_readProgram_23_s σ0 (s.1) (s.2) hf _ hs
theorem f_cRea_readProgram (σ0 : jx_S) (σ : jx_S) (h0 : jFr ms_cRea_readProgram fs_cRea_readProgram σ0 σ) (t : jx_S) (h : p_cRea_readProgram σ = some t) : fkV ms_cRea_readProgram fs_cRea_readProgram σ0 t := by
  unfold p_cRea_readProgram at h
  exact f_cRea_readProgram_23 σ0 (0 : Int32) (jx_i (jx_i (jx_i σ 5 6 (0 : Int32)) 3 9 (0 : Int32)) 4 10 (0 : Int32)) (jFr.i (jFr.i (jFr.i h0 (by decide)) (by decide)) (by decide)) _ h
def ms_cTyp_tell : List Nat := []
def fs_cTyp_tell : List (Nat × Nat) := [(1, 0), (1, 1)]
theorem f_cTyp_tell (σ0 : jx_S) (x1 : Int32) (x2 : Int32) (σ : jx_S) (h0 : jFr ms_cTyp_tell fs_cTyp_tell σ0 σ) (t : jx_S) (h : p_cTyp_tell x1 x2 σ = some t) : fkV ms_cTyp_tell fs_cTyp_tell σ0 t := by
  unfold p_cTyp_tell at h
  obtain ⟨q1, hq, h⟩ := Option.bind_eq_some_iff.mp h
  have f_q1 := jFr.step h0 (f_cFau_tell σ x1 (jI_at 1201 (σ.1 17) x2) σ jFr.rfl q1 hq) (by decide +kernel) (by decide +kernel)
  have h9 := Option.some.inj h
  subst h9
  exact f_q1
def ms_cTyp_checkNames : List Nat := []
def fs_cTyp_checkNames : List (Nat × Nat) := [(1, 0), (1, 1)]
def fk_cTyp_checkNames_2 (σ0 : jx_S) (t : ((Int32 × Int32 × jx_S) ⊕ jx_S)) : Prop := match t with
  | .inl s => jFr ms_cTyp_checkNames fs_cTyp_checkNames σ0 (s.2.2)
  | .inr t => fkV ms_cTyp_checkNames fs_cTyp_checkNames σ0 t
def fk_cTyp_checkNames_60 (σ0 : jx_S) (t : ((Int32 × Int32 × jx_S) ⊕ jx_S)) : Prop := match t with
  | .inl s => jFr ms_cTyp_checkNames fs_cTyp_checkNames σ0 (s.2.2)
  | .inr t => fkV ms_cTyp_checkNames fs_cTyp_checkNames σ0 t
def fk_cTyp_checkNames_77 (σ0 : jx_S) (t : ((Int32 × Int32 × Int32 × jx_S) ⊕ ((Int32 × Int32 × jx_S) ⊕ jx_S))) : Prop := match t with
  | .inl s => jFr ms_cTyp_checkNames fs_cTyp_checkNames σ0 (s.2.2.2)
  | .inr t => fk_cTyp_checkNames_60 σ0 t
theorem f_cTyp_checkNames_121 (σ0 : jx_S) (x1 : Int32) (x2 : Int32) (x3 : Int32) (σ : jx_S) (h0 : jFr ms_cTyp_checkNames fs_cTyp_checkNames σ0 σ) (t : ((Int32 × Int32 × Int32 × jx_S) ⊕ ((Int32 × Int32 × jx_S) ⊕ jx_S))) (h : p_cTyp_checkNames_121 x1 x2 x3 σ = some t) : fk_cTyp_checkNames_77 σ0 t := by
  unfold p_cTyp_checkNames_121 at h
  have h9 := Option.some.inj h
  subst h9
  exact h0
theorem f_cTyp_checkNames_77_s (σ0 : jx_S) (x1 : Int32) (x2 : Int32) (x3 : Int32) (σ : jx_S) (h0 : jFr ms_cTyp_checkNames fs_cTyp_checkNames σ0 σ) (t : ((Int32 × Int32 × Int32 × jx_S) ⊕ ((Int32 × Int32 × jx_S) ⊕ jx_S))) (h : p_cTyp_checkNames_77_s x1 x2 x3 σ = some t) : fk_cTyp_checkNames_77 σ0 t := by
  unfold p_cTyp_checkNames_77_s at h
  rcases Classical.em (x2 ≤ x3) with hc | hc
  · rw [if_pos hc] at h
    obtain ⟨t9_2, h9_2, h8_2⟩ := Option.map_eq_some_iff.mp h
    clear h
    subst h8_2
    have h := h9_2
    clear h9_2
    have h9 := Option.some.inj h
    subst h9
    exact h0
  · rw [if_neg hc] at h
    rcases Classical.em ((v_cTyp_isSameName (v_cFun_nameOf x1 x3 σ) (v_cFun_nameOf x1 x2 σ) σ) = 0) with hc | hc
    · rw [if_pos hc] at h
      exact f_cTyp_checkNames_121 σ0 x1 x2 x3 σ h0 _ h
    · rw [if_neg hc] at h
      obtain ⟨q3, hq, h⟩ := Option.bind_eq_some_iff.mp h
      have f_q3 := jFr.step h0 (f_cTyp_tell σ (5 : Int32) (v_cFun_nameOf x1 x2 σ) σ jFr.rfl q3 hq) (by decide +kernel) (by decide +kernel)
      exact f_cTyp_checkNames_121 σ0 x1 x2 x3 q3 f_q3 _ h
theorem f_cTyp_checkNames_77 (σ0 : jx_S) (x1 : Int32) (x2 : Int32) (x3 : Int32) (σ : jx_S) (h0 : jFr ms_cTyp_checkNames fs_cTyp_checkNames σ0 σ) (t : ((Int32 × Int32 × jx_S) ⊕ jx_S)) (h : p_cTyp_checkNames_77 x1 x2 x3 σ = some t) : fk_cTyp_checkNames_60 σ0 t := by
  refine jx_loop_ok (E := fun s t => jFr ms_cTyp_checkNames fs_cTyp_checkNames σ0 (s.2.2.2) → fk_cTyp_checkNames_60 σ0 t) (fun s t hs => ?_) _ _ _ h h0
  cases t with
  | inl s1 => exact fun b hb hf => hb (f_cTyp_checkNames_77_s σ0 (s.1) (s.2.1) (s.2.2.1) (s.2.2.2) hf _ hs)
  | inr b => exact fun hf => f_cTyp_checkNames_77_s σ0 (s.1) (s.2.1) (s.2.2.1) (s.2.2.2) hf _ hs
theorem f_cTyp_checkNames_60_s (σ0 : jx_S) (x1 : Int32) (x2 : Int32) (σ : jx_S) (h0 : jFr ms_cTyp_checkNames fs_cTyp_checkNames σ0 σ) (t : ((Int32 × Int32 × jx_S) ⊕ jx_S)) (h : p_cTyp_checkNames_60_s x1 x2 σ = some t) : fk_cTyp_checkNames_60 σ0 t := by
  unfold p_cTyp_checkNames_60_s at h
  rcases Classical.em ((jI_at 40 (σ.1 43) x1) ≤ x2) with hc | hc
  · rw [if_pos hc] at h
    obtain ⟨t9_1, h9_1, h8_1⟩ := Option.map_eq_some_iff.mp h
    clear h
    subst h8_1
    have h := h9_1
    clear h9_1
    have h9 := Option.some.inj h
    subst h9
    exact h0
  · rw [if_neg hc] at h
    exact f_cTyp_checkNames_77 σ0 x1 x2 (0 : Int32) σ h0 _ h
theorem f_cTyp_checkNames_60 (σ0 : jx_S) (x1 : Int32) (x2 : Int32) (σ : jx_S) (h0 : jFr ms_cTyp_checkNames fs_cTyp_checkNames σ0 σ) (t : jx_S) (h : p_cTyp_checkNames_60 x1 x2 σ = some t) : fkV ms_cTyp_checkNames fs_cTyp_checkNames σ0 t := by
  refine jx_loop_ok (E := fun s t => jFr ms_cTyp_checkNames fs_cTyp_checkNames σ0 (s.2.2) → fkV ms_cTyp_checkNames fs_cTyp_checkNames σ0 t) (fun s t hs => ?_) _ _ _ h h0
  cases t with
  | inl s1 => exact fun b hb hf => hb (f_cTyp_checkNames_60_s σ0 (s.1) (s.2.1) (s.2.2) hf _ hs)
  | inr b => exact fun hf => f_cTyp_checkNames_60_s σ0 (s.1) (s.2.1) (s.2.2) hf _ hs
theorem f_cTyp_checkNames_52 (σ0 : jx_S) (x1 : Int32) (x2 : Int32) (σ : jx_S) (h0 : jFr ms_cTyp_checkNames fs_cTyp_checkNames σ0 σ) (t : ((Int32 × Int32 × jx_S) ⊕ jx_S)) (h : p_cTyp_checkNames_52 x1 x2 σ = some t) : fk_cTyp_checkNames_2 σ0 t := by
  unfold p_cTyp_checkNames_52 at h
  have h9 := Option.some.inj h
  subst h9
  exact h0
theorem f_cTyp_checkNames_2_s (σ0 : jx_S) (x1 : Int32) (x2 : Int32) (σ : jx_S) (h0 : jFr ms_cTyp_checkNames fs_cTyp_checkNames σ0 σ) (t : ((Int32 × Int32 × jx_S) ⊕ jx_S)) (h : p_cTyp_checkNames_2_s x1 x2 σ = some t) : fk_cTyp_checkNames_2 σ0 t := by
  unfold p_cTyp_checkNames_2_s at h
  rcases Classical.em (x1 ≤ x2) with hc | hc
  · rw [if_pos hc] at h
    obtain ⟨t9_4, h9_4, h8_4⟩ := Option.map_eq_some_iff.mp h
    clear h
    subst h8_4
    have h := h9_4
    clear h9_4
    exact f_cTyp_checkNames_60 σ0 x1 (0 : Int32) σ h0 _ h
  · rw [if_neg hc] at h
    rcases Classical.em ((v_cTyp_isSameName (jI_at 40 (σ.1 41) x2) (jI_at 40 (σ.1 41) x1) σ) = 0) with hc | hc
    · rw [if_pos hc] at h
      exact f_cTyp_checkNames_52 σ0 x1 x2 σ h0 _ h
    · rw [if_neg hc] at h
      obtain ⟨q5, hq, h⟩ := Option.bind_eq_some_iff.mp h
      have f_q5 := jFr.step h0 (f_cTyp_tell σ (5 : Int32) (jI_at 40 (σ.1 41) x1) σ jFr.rfl q5 hq) (by decide +kernel) (by decide +kernel)
      exact f_cTyp_checkNames_52 σ0 x1 x2 q5 f_q5 _ h
theorem f_cTyp_checkNames_2 (σ0 : jx_S) (x1 : Int32) (x2 : Int32) (σ : jx_S) (h0 : jFr ms_cTyp_checkNames fs_cTyp_checkNames σ0 σ) (t : jx_S) (h : p_cTyp_checkNames_2 x1 x2 σ = some t) : fkV ms_cTyp_checkNames fs_cTyp_checkNames σ0 t := by
  refine jx_loop_ok (E := fun s t => jFr ms_cTyp_checkNames fs_cTyp_checkNames σ0 (s.2.2) → fkV ms_cTyp_checkNames fs_cTyp_checkNames σ0 t) (fun s t hs => ?_) _ _ _ h h0
  cases t with
  | inl s1 => exact fun b hb hf => hb (f_cTyp_checkNames_2_s σ0 (s.1) (s.2.1) (s.2.2) hf _ hs)
  | inr b => exact fun hf => f_cTyp_checkNames_2_s σ0 (s.1) (s.2.1) (s.2.2) hf _ hs
theorem f_cTyp_checkNames (σ0 : jx_S) (x1 : Int32) (σ : jx_S) (h0 : jFr ms_cTyp_checkNames fs_cTyp_checkNames σ0 σ) (t : jx_S) (h : p_cTyp_checkNames x1 σ = some t) : fkV ms_cTyp_checkNames fs_cTyp_checkNames σ0 t := by
  unfold p_cTyp_checkNames at h
  exact f_cTyp_checkNames_2 σ0 x1 (0 : Int32) σ h0 _ h
def ms_cTyp_require : List Nat := []
def fs_cTyp_require : List (Nat × Nat) := [(1, 0), (1, 1)]
theorem f_cTyp_require (σ0 : jx_S) (x1 : Int32) (x2 : Int32) (σ : jx_S) (h0 : jFr ms_cTyp_require fs_cTyp_require σ0 σ) (t : jx_S) (h : p_cTyp_require x1 x2 σ = some t) : fkV ms_cTyp_require fs_cTyp_require σ0 t := by
  unfold p_cTyp_require at h
  rcases Classical.em (¬ x2 = 0) with hc | hc
  · rw [if_pos hc] at h
    have h9 := Option.some.inj h
    subst h9
    exact h0
  · rw [if_neg hc] at h
    obtain ⟨q1, hq, h⟩ := Option.bind_eq_some_iff.mp h
    have f_q1 := jFr.step h0 (f_cTyp_tell σ (7 : Int32) (jI_at 1201 (σ.1 25) x1) σ jFr.rfl q1 hq) (by decide +kernel) (by decide +kernel)
    have h9 := Option.some.inj h
    subst h9
    exact f_q1
def ms_cTyp_checkLocal : List Nat := [37]
def fs_cTyp_checkLocal : List (Nat × Nat) := [(1, 0), (1, 1)]
def fk_cTyp_checkLocal_88 (σ0 : jx_S) (t : ((Int32 × Int32 × Int32 × Int32 × jx_S) ⊕ jx_S)) : Prop := match t with
  | .inl s => jFr ms_cTyp_checkLocal fs_cTyp_checkLocal σ0 (s.2.2.2.2)
  | .inr t => fkV ms_cTyp_checkLocal fs_cTyp_checkLocal σ0 t
theorem f_cTyp_checkLocal_88_s (σ0 : jx_S) (x3 : Int32) (x4 : Int32) (x5 : Int32) (x6 : Int32) (σ : jx_S) (h0 : jFr ms_cTyp_checkLocal fs_cTyp_checkLocal σ0 σ) (t : ((Int32 × Int32 × Int32 × Int32 × jx_S) ⊕ jx_S)) (h : p_cTyp_checkLocal_88_s x3 x4 x5 x6 σ = some t) : fk_cTyp_checkLocal_88 σ0 t := by
  unfold p_cTyp_checkLocal_88_s at h
  rcases Classical.em (x4 ≤ x6) with hc | hc
  · rw [if_pos hc] at h
    obtain ⟨t9_2, h9_2, h8_2⟩ := Option.map_eq_some_iff.mp h
    clear h
    subst h8_2
    have h := h9_2
    clear h9_2
    have h9 := Option.some.inj h
    subst h9
    exact h0
  · rw [if_neg hc] at h
    rcases Classical.em (¬ (v_cFau_isTold σ) = 0) with hc | hc
    · rw [if_pos hc] at h
      obtain ⟨t9_3, h9_3, h8_3⟩ := Option.map_eq_some_iff.mp h
      clear h
      subst h8_3
      have h := h9_3
      clear h9_3
      have h9 := Option.some.inj h
      subst h9
      exact h0
    · rw [if_neg hc] at h
      have h9 := Option.some.inj h
      subst h9
      exact (jFr.ip h0 (by decide))
theorem f_cTyp_checkLocal_88 (σ0 : jx_S) (x3 : Int32) (x4 : Int32) (x5 : Int32) (x6 : Int32) (σ : jx_S) (h0 : jFr ms_cTyp_checkLocal fs_cTyp_checkLocal σ0 σ) (t : jx_S) (h : p_cTyp_checkLocal_88 x3 x4 x5 x6 σ = some t) : fkV ms_cTyp_checkLocal fs_cTyp_checkLocal σ0 t := by
  refine jx_loop_ok (E := fun s t => jFr ms_cTyp_checkLocal fs_cTyp_checkLocal σ0 (s.2.2.2.2) → fkV ms_cTyp_checkLocal fs_cTyp_checkLocal σ0 t) (fun s t hs => ?_) _ _ _ h h0
  cases t with
  | inl s1 => exact fun b hb hf => hb (f_cTyp_checkLocal_88_s σ0 (s.1) (s.2.1) (s.2.2.1) (s.2.2.2.1) (s.2.2.2.2) hf _ hs)
  | inr b => exact fun hf => f_cTyp_checkLocal_88_s σ0 (s.1) (s.2.1) (s.2.2.1) (s.2.2.2.1) (s.2.2.2.2) hf _ hs
theorem f_cTyp_checkLocal_69 (σ0 : jx_S) (x2 : Int32) (x3 : Int32) (x4 : Int32) (y0 : Int32) (y1 : Int32) (σ : jx_S) (h0 : jFr ms_cTyp_checkLocal fs_cTyp_checkLocal σ0 σ) (t : jx_S) (h : p_cTyp_checkLocal_69 x2 x3 x4 y0 y1 σ = some t) : fkV ms_cTyp_checkLocal fs_cTyp_checkLocal σ0 t := by
  unfold p_cTyp_checkLocal_69 at h
  obtain ⟨q1, hq, h⟩ := Option.bind_eq_some_iff.mp h
  have f_q1 := jFr.step h0 (f_cTyp_require σ y1 y0 σ jFr.rfl q1 hq) (by decide +kernel) (by decide +kernel)
  exact f_cTyp_checkLocal_88 σ0 x3 x4 (jI_at 1201 (q1.1 27) x2) (0 : Int32) q1 f_q1 _ h
theorem f_cTyp_checkLocal_68 (σ0 : jx_S) (x2 : Int32) (x3 : Int32) (x4 : Int32) (y0 : Int32) (σ : jx_S) (h0 : jFr ms_cTyp_checkLocal fs_cTyp_checkLocal σ0 σ) (t : jx_S) (h : p_cTyp_checkLocal_68 x2 x3 x4 y0 σ = some t) : fkV ms_cTyp_checkLocal fs_cTyp_checkLocal σ0 t := by
  unfold p_cTyp_checkLocal_68 at h
  exact f_cTyp_checkLocal_69 σ0 x2 x3 x4 (0 : Int32) y0 σ h0 _ h
theorem f_cTyp_checkLocal (σ0 : jx_S) (x1 : Int32) (x2 : Int32) (σ : jx_S) (h0 : jFr ms_cTyp_checkLocal fs_cTyp_checkLocal σ0 σ) (t : jx_S) (h : p_cTyp_checkLocal x1 x2 σ = some t) : fkV ms_cTyp_checkLocal fs_cTyp_checkLocal σ0 t := by
  unfold p_cTyp_checkLocal at h
  rcases Classical.em ((v_cTyp_takenBy (v_cFun_typeOf x1 (jI_at 1201 (σ.1 33) x2) σ) σ) < (jI_at 1201 (σ.1 35) x2)) with hc | hc
  · rw [if_pos hc] at h
    exact f_cTyp_checkLocal_68 σ0 x2 (v_cFun_typeOf x1 (jI_at 1201 (σ.1 33) x2) σ) (jI_at 1201 (σ.1 35) x2) x2 σ h0 _ h
  · rw [if_neg hc] at h
    rcases Classical.em (¬ (v_cTyp_leftOf (v_cFun_typeOf x1 (jI_at 1201 (σ.1 33) x2) σ) (jI_at 1201 (σ.1 35) x2) σ) = (jI_at 1201 (σ.1 37) x2)) with hc | hc
    · rw [if_pos hc] at h
      exact f_cTyp_checkLocal_68 σ0 x2 (v_cFun_typeOf x1 (jI_at 1201 (σ.1 33) x2) σ) (jI_at 1201 (σ.1 35) x2) x2 σ h0 _ h
    · rw [if_neg hc] at h
      exact f_cTyp_checkLocal_69 σ0 x2 (v_cFun_typeOf x1 (jI_at 1201 (σ.1 33) x2) σ) (jI_at 1201 (σ.1 35) x2) (1 : Int32) x2 σ h0 _ h
def ms_cTyp_findFunction : List Nat := []
def fs_cTyp_findFunction : List (Nat × Nat) := []
def fk_cTyp_findFunction_2 (σ0 : jx_S) (t : ((Int32 × Int32 × jx_S) ⊕ (Int32 × jx_S))) : Prop := match t with
  | .inl s => jFr ms_cTyp_findFunction fs_cTyp_findFunction σ0 (s.2.2)
  | .inr t => fkI ms_cTyp_findFunction fs_cTyp_findFunction σ0 t
theorem f_cTyp_findFunction_2_s (σ0 : jx_S) (x1 : Int32) (x2 : Int32) (σ : jx_S) (h0 : jFr ms_cTyp_findFunction fs_cTyp_findFunction σ0 σ) (t : ((Int32 × Int32 × jx_S) ⊕ (Int32 × jx_S))) (h : p_cTyp_findFunction_2_s x1 x2 σ = some t) : fk_cTyp_findFunction_2 σ0 t := by
  unfold p_cTyp_findFunction_2_s at h
  rcases Classical.em ((σ.1 4 10) ≤ x2) with hc | hc
  · rw [if_pos hc] at h
    obtain ⟨t9_1, h9_1, h8_1⟩ := Option.map_eq_some_iff.mp h
    clear h
    subst h8_1
    have h := h9_1
    clear h9_1
    have h9 := Option.some.inj h
    subst h9
    exact h0
  · rw [if_neg hc] at h
    rcases Classical.em ((v_cTyp_isSameName (jI_at 40 (σ.1 41) x2) x1 σ) = 0) with hc | hc
    · rw [if_pos hc] at h
      have h9 := Option.some.inj h
      subst h9
      exact h0
    · rw [if_neg hc] at h
      obtain ⟨t9_2, h9_2, h8_2⟩ := Option.map_eq_some_iff.mp h
      clear h
      subst h8_2
      have h := h9_2
      clear h9_2
      have h9 := Option.some.inj h
      subst h9
      exact h0
theorem f_cTyp_findFunction_2 (σ0 : jx_S) (x1 : Int32) (x2 : Int32) (σ : jx_S) (h0 : jFr ms_cTyp_findFunction fs_cTyp_findFunction σ0 σ) (t : (Int32 × jx_S)) (h : p_cTyp_findFunction_2 x1 x2 σ = some t) : fkI ms_cTyp_findFunction fs_cTyp_findFunction σ0 t := by
  refine jx_loop_ok (E := fun s t => jFr ms_cTyp_findFunction fs_cTyp_findFunction σ0 (s.2.2) → fkI ms_cTyp_findFunction fs_cTyp_findFunction σ0 t) (fun s t hs => ?_) _ _ _ h h0
  cases t with
  | inl s1 => exact fun b hb hf => hb (f_cTyp_findFunction_2_s σ0 (s.1) (s.2.1) (s.2.2) hf _ hs)
  | inr b => exact fun hf => f_cTyp_findFunction_2_s σ0 (s.1) (s.2.1) (s.2.2) hf _ hs
theorem f_cTyp_findFunction (σ0 : jx_S) (x1 : Int32) (σ : jx_S) (h0 : jFr ms_cTyp_findFunction fs_cTyp_findFunction σ0 σ) (t : (Int32 × jx_S)) (h : p_cTyp_findFunction x1 σ = some t) : fkI ms_cTyp_findFunction fs_cTyp_findFunction σ0 t := by
  unfold p_cTyp_findFunction at h
  exact f_cTyp_findFunction_2 σ0 x1 (0 : Int32) σ h0 _ h
def ms_cTyp_checkCall : List Nat := [33, 37]
def fs_cTyp_checkCall : List (Nat × Nat) := [(1, 0), (1, 1)]
def fk_cTyp_checkCall_124 (σ0 : jx_S) (t : ((Int32 × Int32 × Int32 × Int32 × jx_S) ⊕ jx_S)) : Prop := match t with
  | .inl s => jFr ms_cTyp_checkCall fs_cTyp_checkCall σ0 (s.2.2.2.2)
  | .inr t => fkV ms_cTyp_checkCall fs_cTyp_checkCall σ0 t
theorem f_cTyp_checkCall_124_s (σ0 : jx_S) (x2 : Int32) (x3 : Int32) (x4 : Int32) (x5 : Int32) (σ : jx_S) (h0 : jFr ms_cTyp_checkCall fs_cTyp_checkCall σ0 σ) (t : ((Int32 × Int32 × Int32 × Int32 × jx_S) ⊕ jx_S)) (h : p_cTyp_checkCall_124_s x2 x3 x4 x5 σ = some t) : fk_cTyp_checkCall_124 σ0 t := by
  unfold p_cTyp_checkCall_124_s at h
  rcases Classical.em (x3 ≤ x5) with hc | hc
  · rw [if_pos hc] at h
    obtain ⟨t9_3, h9_3, h8_3⟩ := Option.map_eq_some_iff.mp h
    clear h
    subst h8_3
    have h := h9_3
    clear h9_3
    have h9 := Option.some.inj h
    subst h9
    exact h0
  · rw [if_neg hc] at h
    rcases Classical.em (¬ (v_cFau_isTold σ) = 0) with hc | hc
    · rw [if_pos hc] at h
      obtain ⟨t9_4, h9_4, h8_4⟩ := Option.map_eq_some_iff.mp h
      clear h
      subst h8_4
      have h := h9_4
      clear h9_4
      have h9 := Option.some.inj h
      subst h9
      exact h0
    · rw [if_neg hc] at h
      have h9 := Option.some.inj h
      subst h9
      exact (jFr.ip h0 (by decide))
theorem f_cTyp_checkCall_124 (σ0 : jx_S) (x2 : Int32) (x3 : Int32) (x4 : Int32) (x5 : Int32) (σ : jx_S) (h0 : jFr ms_cTyp_checkCall fs_cTyp_checkCall σ0 σ) (t : jx_S) (h : p_cTyp_checkCall_124 x2 x3 x4 x5 σ = some t) : fkV ms_cTyp_checkCall fs_cTyp_checkCall σ0 t := by
  refine jx_loop_ok (E := fun s t => jFr ms_cTyp_checkCall fs_cTyp_checkCall σ0 (s.2.2.2.2) → fkV ms_cTyp_checkCall fs_cTyp_checkCall σ0 t) (fun s t hs => ?_) _ _ _ h h0
  cases t with
  | inl s1 => exact fun b hb hf => hb (f_cTyp_checkCall_124_s σ0 (s.1) (s.2.1) (s.2.2.1) (s.2.2.2.1) (s.2.2.2.2) hf _ hs)
  | inr b => exact fun hf => f_cTyp_checkCall_124_s σ0 (s.1) (s.2.1) (s.2.2.1) (s.2.2.2.1) (s.2.2.2.2) hf _ hs
theorem f_cTyp_checkCall_105 (σ0 : jx_S) (x1 : Int32) (x2 : Int32) (x3 : Int32) (y0 : Int32) (y1 : Int32) (σ : jx_S) (h0 : jFr ms_cTyp_checkCall fs_cTyp_checkCall σ0 σ) (t : jx_S) (h : p_cTyp_checkCall_105 x1 x2 x3 y0 y1 σ = some t) : fkV ms_cTyp_checkCall fs_cTyp_checkCall σ0 t := by
  unfold p_cTyp_checkCall_105 at h
  obtain ⟨q2, hq, h⟩ := Option.bind_eq_some_iff.mp h
  have f_q2 := jFr.step h0 (f_cTyp_require σ y1 y0 σ jFr.rfl q2 hq) (by decide +kernel) (by decide +kernel)
  exact f_cTyp_checkCall_124 σ0 x2 x3 (jI_at 1201 (q2.1 27) x1) (0 : Int32) q2 f_q2 _ h
theorem f_cTyp_checkCall_104 (σ0 : jx_S) (x1 : Int32) (x2 : Int32) (x3 : Int32) (y0 : Int32) (σ : jx_S) (h0 : jFr ms_cTyp_checkCall fs_cTyp_checkCall σ0 σ) (t : jx_S) (h : p_cTyp_checkCall_104 x1 x2 x3 y0 σ = some t) : fkV ms_cTyp_checkCall fs_cTyp_checkCall σ0 t := by
  unfold p_cTyp_checkCall_104 at h
  exact f_cTyp_checkCall_105 σ0 x1 x2 x3 (0 : Int32) y0 σ h0 _ h
theorem f_cTyp_checkCall (σ0 : jx_S) (x1 : Int32) (σ : jx_S) (h0 : jFr ms_cTyp_checkCall fs_cTyp_checkCall σ0 σ) (t : jx_S) (h : p_cTyp_checkCall x1 σ = some t) : fkV ms_cTyp_checkCall fs_cTyp_checkCall σ0 t := by
  unfold p_cTyp_checkCall at h
  obtain ⟨q1, hq, h⟩ := Option.bind_eq_some_iff.mp h
  have f_q1 := jFr.step h0 (f_cTyp_findFunction σ (jI_at 1201 (σ.1 25) x1) σ jFr.rfl q1 hq) (by decide +kernel) (by decide +kernel)
  rcases Classical.em (¬ q1.1 = (-1 : Int32)) with hc | hc
  · rw [if_pos hc] at h
    rcases Classical.em ((jI_at 40 (q1.2.1 43) q1.1) < (jI_at 1201 (q1.2.1 35) x1)) with hc | hc
    · rw [if_pos hc] at h
      exact f_cTyp_checkCall_104 σ0 x1 q1.1 (jI_at 1201 (q1.2.1 35) x1) x1 (jI_put 1201 q1.2 33 x1 q1.1) (jFr.ip f_q1 (by decide)) _ h
    · rw [if_neg hc] at h
      rcases Classical.em (¬ (v_cTyp_leftOfFunction q1.1 (jI_at 1201 (q1.2.1 35) x1) (jI_put 1201 q1.2 33 x1 q1.1)) = (jI_at 1201 (q1.2.1 37) x1)) with hc | hc
      · rw [if_pos hc] at h
        exact f_cTyp_checkCall_104 σ0 x1 q1.1 (jI_at 1201 (q1.2.1 35) x1) x1 (jI_put 1201 q1.2 33 x1 q1.1) (jFr.ip f_q1 (by decide)) _ h
      · rw [if_neg hc] at h
        exact f_cTyp_checkCall_105 σ0 x1 q1.1 (jI_at 1201 (q1.2.1 35) x1) (1 : Int32) x1 (jI_put 1201 q1.2 33 x1 q1.1) (jFr.ip f_q1 (by decide)) _ h
  · rw [if_neg hc] at h
    obtain ⟨q5, hq, h⟩ := Option.bind_eq_some_iff.mp h
    have f_q5 := jFr.step f_q1 (f_cTyp_tell q1.2 (6 : Int32) (jI_at 1201 (q1.2.1 25) x1) q1.2 jFr.rfl q5 hq) (by decide +kernel) (by decide +kernel)
    have h9 := Option.some.inj h
    subst h9
    exact f_q5
def ms_cTre_part : List Nat := []
def fs_cTre_part : List (Nat × Nat) := []
def fk_cTre_part_12 (σ0 : jx_S) (t : ((Int32 × Int32 × Int32 × jx_S) ⊕ (Int32 × jx_S))) : Prop := match t with
  | .inl s => jFr ms_cTre_part fs_cTre_part σ0 (s.2.2.2)
  | .inr t => fkI ms_cTre_part fs_cTre_part σ0 t
theorem f_cTre_part_12_s (σ0 : jx_S) (x2 : Int32) (x3 : Int32) (x4 : Int32) (σ : jx_S) (h0 : jFr ms_cTre_part fs_cTre_part σ0 σ) (t : ((Int32 × Int32 × Int32 × jx_S) ⊕ (Int32 × jx_S))) (h : p_cTre_part_12_s x2 x3 x4 σ = some t) : fk_cTre_part_12 σ0 t := by
  unfold p_cTre_part_12_s at h
  rcases Classical.em (x2 ≤ x4) with hc | hc
  · rw [if_pos hc] at h
    obtain ⟨t9_1, h9_1, h8_1⟩ := Option.map_eq_some_iff.mp h
    clear h
    subst h8_1
    have h := h9_1
    clear h9_1
    have h9 := Option.some.inj h
    subst h9
    exact h0
  · rw [if_neg hc] at h
    rcases Classical.em (x3 = 0) with hc | hc
    · rw [if_pos hc] at h
      obtain ⟨t9_2, h9_2, h8_2⟩ := Option.map_eq_some_iff.mp h
      clear h
      subst h8_2
      have h := h9_2
      clear h9_2
      have h9 := Option.some.inj h
      subst h9
      exact h0
    · rw [if_neg hc] at h
      have h9 := Option.some.inj h
      subst h9
      exact h0
theorem f_cTre_part_12 (σ0 : jx_S) (x2 : Int32) (x3 : Int32) (x4 : Int32) (σ : jx_S) (h0 : jFr ms_cTre_part fs_cTre_part σ0 σ) (t : (Int32 × jx_S)) (h : p_cTre_part_12 x2 x3 x4 σ = some t) : fkI ms_cTre_part fs_cTre_part σ0 t := by
  refine jx_loop_ok (E := fun s t => jFr ms_cTre_part fs_cTre_part σ0 (s.2.2.2) → fkI ms_cTre_part fs_cTre_part σ0 t) (fun s t hs => ?_) _ _ _ h h0
  cases t with
  | inl s1 => exact fun b hb hf => hb (f_cTre_part_12_s σ0 (s.1) (s.2.1) (s.2.2.1) (s.2.2.2) hf _ hs)
  | inr b => exact fun hf => f_cTre_part_12_s σ0 (s.1) (s.2.1) (s.2.2.1) (s.2.2.2) hf _ hs
theorem f_cTre_part (σ0 : jx_S) (x1 : Int32) (x2 : Int32) (σ : jx_S) (h0 : jFr ms_cTre_part fs_cTre_part σ0 σ) (t : (Int32 × jx_S)) (h : p_cTre_part x1 x2 σ = some t) : fkI ms_cTre_part fs_cTre_part σ0 t := by
  unfold p_cTre_part at h
  exact f_cTre_part_12 σ0 x2 (jI_at 1201 (σ.1 27) x1) (0 : Int32) σ h0 _ h
def ms_cTyp_wantParts : List Nat := [37]
def fs_cTyp_wantParts : List (Nat × Nat) := []
theorem f_cTyp_wantParts (σ0 : jx_S) (x1 : Int32) (x2 : Int32) (x3 : Int32) (x4 : Int32) (σ : jx_S) (h0 : jFr ms_cTyp_wantParts fs_cTyp_wantParts σ0 σ) (t : jx_S) (h : p_cTyp_wantParts x1 x2 x3 x4 σ = some t) : fkV ms_cTyp_wantParts fs_cTyp_wantParts σ0 t := by
  unfold p_cTyp_wantParts at h
  obtain ⟨q1, hq, h⟩ := Option.bind_eq_some_iff.mp h
  have f_q1 := jFr.step h0 (f_cTre_part σ x1 (0 : Int32) σ jFr.rfl q1 hq) (by decide +kernel) (by decide +kernel)
  obtain ⟨q2, hq, h⟩ := Option.bind_eq_some_iff.mp h
  have f_q2 := jFr.step (jFr.ip f_q1 (by decide)) (f_cTre_part (jI_put 1201 q1.2 37 q1.1 x2) x1 (1 : Int32) (jI_put 1201 q1.2 37 q1.1 x2) jFr.rfl q2 hq) (by decide +kernel) (by decide +kernel)
  obtain ⟨q3, hq, h⟩ := Option.bind_eq_some_iff.mp h
  have f_q3 := jFr.step (jFr.ip f_q2 (by decide)) (f_cTre_part (jI_put 1201 q2.2 37 q2.1 x3) x1 (2 : Int32) (jI_put 1201 q2.2 37 q2.1 x3) jFr.rfl q3 hq) (by decide +kernel) (by decide +kernel)
  have h9 := Option.some.inj h
  subst h9
  exact (jFr.ip f_q3 (by decide))
def ms_cTyp_checkNode : List Nat := [33, 37]
def fs_cTyp_checkNode : List (Nat × Nat) := [(1, 0), (1, 1)]
theorem f_cTyp_checkNode_255 (σ0 : jx_S) (x2 : Int32) (y0 : Int32) (y1 : Int32) (σ : jx_S) (h0 : jFr ms_cTyp_checkNode fs_cTyp_checkNode σ0 σ) (t : jx_S) (h : p_cTyp_checkNode_255 x2 y0 y1 σ = some t) : fkV ms_cTyp_checkNode fs_cTyp_checkNode σ0 t := by
  unfold p_cTyp_checkNode_255 at h
  obtain ⟨q7, hq, h⟩ := Option.bind_eq_some_iff.mp h
  have f_q7 := jFr.step h0 (f_cTyp_require σ y1 y0 σ jFr.rfl q7 hq) (by decide +kernel) (by decide +kernel)
  obtain ⟨q8, hq, h⟩ := Option.bind_eq_some_iff.mp h
  have f_q8 := jFr.step f_q7 (f_cTyp_wantParts q7 x2 (0 : Int32) (1 : Int32) (1 : Int32) q7 jFr.rfl q8 hq) (by decide +kernel) (by decide +kernel)
  have h9 := Option.some.inj h
  subst h9
  exact f_q8
theorem f_cTyp_checkNode_243 (σ0 : jx_S) (x2 : Int32) (x3 : Int32) (σ : jx_S) (h0 : jFr ms_cTyp_checkNode fs_cTyp_checkNode σ0 σ) (t : jx_S) (h : p_cTyp_checkNode_243 x2 x3 σ = some t) : fkV ms_cTyp_checkNode fs_cTyp_checkNode σ0 t := by
  unfold p_cTyp_checkNode_243 at h
  rcases Classical.em (¬ x3 = (1 : Int32)) with hc | hc
  · rw [if_pos hc] at h
    exact f_cTyp_checkNode_255 σ0 x2 (0 : Int32) x2 σ h0 _ h
  · rw [if_neg hc] at h
    exact f_cTyp_checkNode_255 σ0 x2 (1 : Int32) x2 σ h0 _ h
theorem f_cTyp_checkNode_280 (σ0 : jx_S) (x2 : Int32) (y0 : Int32) (y1 : Int32) (σ : jx_S) (h0 : jFr ms_cTyp_checkNode fs_cTyp_checkNode σ0 σ) (t : jx_S) (h : p_cTyp_checkNode_280 x2 y0 y1 σ = some t) : fkV ms_cTyp_checkNode fs_cTyp_checkNode σ0 t := by
  unfold p_cTyp_checkNode_280 at h
  obtain ⟨q12, hq, h⟩ := Option.bind_eq_some_iff.mp h
  have f_q12 := jFr.step h0 (f_cTyp_require σ y1 y0 σ jFr.rfl q12 hq) (by decide +kernel) (by decide +kernel)
  obtain ⟨q13, hq, h⟩ := Option.bind_eq_some_iff.mp h
  have f_q13 := jFr.step f_q12 (f_cTyp_wantParts q12 x2 (0 : Int32) (0 : Int32) (0 : Int32) q12 jFr.rfl q13 hq) (by decide +kernel) (by decide +kernel)
  have h9 := Option.some.inj h
  subst h9
  exact f_q13
theorem f_cTyp_checkNode_269 (σ0 : jx_S) (x2 : Int32) (x3 : Int32) (σ : jx_S) (h0 : jFr ms_cTyp_checkNode fs_cTyp_checkNode σ0 σ) (t : jx_S) (h : p_cTyp_checkNode_269 x2 x3 σ = some t) : fkV ms_cTyp_checkNode fs_cTyp_checkNode σ0 t := by
  unfold p_cTyp_checkNode_269 at h
  rcases Classical.em (¬ x3 = 0) with hc | hc
  · rw [if_pos hc] at h
    exact f_cTyp_checkNode_280 σ0 x2 (0 : Int32) x2 σ h0 _ h
  · rw [if_neg hc] at h
    exact f_cTyp_checkNode_280 σ0 x2 (1 : Int32) x2 σ h0 _ h
theorem f_cTyp_checkNode (σ0 : jx_S) (x1 : Int32) (x2 : Int32) (σ : jx_S) (h0 : jFr ms_cTyp_checkNode fs_cTyp_checkNode σ0 σ) (t : jx_S) (h : p_cTyp_checkNode x1 x2 σ = some t) : fkV ms_cTyp_checkNode fs_cTyp_checkNode σ0 t := by
  unfold p_cTyp_checkNode at h
  rcases Classical.em ((jI_at 1201 (σ.1 23) x2) = 5) with hc0 | hc0
  · rw [if_pos hc0] at h
    obtain ⟨q1, hq, h⟩ := Option.bind_eq_some_iff.mp h
    have f_q1 := jFr.step h0 (f_cTyp_require σ x2 (v_cTyp_isBase (jI_at 1201 (σ.1 37) x2) σ) σ jFr.rfl q1 hq) (by decide +kernel) (by decide +kernel)
    obtain ⟨q2, hq, h⟩ := Option.bind_eq_some_iff.mp h
    have f_q2 := jFr.step f_q1 (f_cTyp_wantParts q1 x2 (v_cFun_typeOf x1 (jI_at 1201 (q1.1 33) x2) q1) (jI_at 1201 (σ.1 37) x2) (jI_at 1201 (σ.1 37) x2) q1 jFr.rfl q2 hq) (by decide +kernel) (by decide +kernel)
    have h9 := Option.some.inj h
    subst h9
    exact f_q2
  · rw [if_neg hc0] at h
    rcases Classical.em ((jI_at 1201 (σ.1 23) x2) = 7) with hc1 | hc1
    · rw [if_pos hc1] at h
      obtain ⟨q3, hq, h⟩ := Option.bind_eq_some_iff.mp h
      have f_q3 := jFr.step h0 (f_cTyp_require σ x2 (v_cTyp_isBase (jI_at 1201 (σ.1 37) x2) σ) σ jFr.rfl q3 hq) (by decide +kernel) (by decide +kernel)
      obtain ⟨q4, hq, h⟩ := Option.bind_eq_some_iff.mp h
      have f_q4 := jFr.step f_q3 (f_cTyp_wantParts q3 x2 (0 : Int32) (jI_at 1201 (σ.1 37) x2) (jI_at 1201 (σ.1 37) x2) q3 jFr.rfl q4 hq) (by decide +kernel) (by decide +kernel)
      have h9 := Option.some.inj h
      subst h9
      exact f_q4
    · rw [if_neg hc1] at h
      rcases Classical.em ((jI_at 1201 (σ.1 23) x2) = 10) with hc2 | hc2
      · rw [if_pos hc2] at h
        obtain ⟨q5, hq, h⟩ := Option.bind_eq_some_iff.mp h
        have f_q5 := jFr.step h0 (f_cTyp_require σ x2 (v_cTyp_isBase (jI_at 1201 (σ.1 37) x2) σ) σ jFr.rfl q5 hq) (by decide +kernel) (by decide +kernel)
        obtain ⟨q6, hq, h⟩ := Option.bind_eq_some_iff.mp h
        have f_q6 := jFr.step f_q5 (f_cTyp_wantParts q5 x2 (1 : Int32) (jI_at 1201 (σ.1 37) x2) (jI_at 1201 (σ.1 37) x2) q5 jFr.rfl q6 hq) (by decide +kernel) (by decide +kernel)
        have h9 := Option.some.inj h
        subst h9
        exact f_q6
      · rw [if_neg hc2] at h
        rcases Classical.em ((jI_at 1201 (σ.1 23) x2) = 13) with hc3 | hc3
        · rw [if_pos hc3] at h
          exact f_cTyp_checkNode_243 σ0 x2 (jI_at 1201 (σ.1 37) x2) σ h0 _ h
        · rw [if_neg hc3] at h
          rcases Classical.em ((jI_at 1201 (σ.1 23) x2) = 14) with hc4 | hc4
          · rw [if_pos hc4] at h
            exact f_cTyp_checkNode_243 σ0 x2 (jI_at 1201 (σ.1 37) x2) σ h0 _ h
          · rw [if_neg hc4] at h
            rcases Classical.em ((jI_at 1201 (σ.1 23) x2) = 15) with hc5 | hc5
            · rw [if_pos hc5] at h
              obtain ⟨q9, hq, h⟩ := Option.bind_eq_some_iff.mp h
              have f_q9 := jFr.step h0 (f_cTyp_require σ x2 (v_cTyp_isBase (jI_at 1201 (σ.1 37) x2) σ) σ jFr.rfl q9 hq) (by decide +kernel) (by decide +kernel)
              have h9 := Option.some.inj h
              subst h9
              exact f_q9
            · rw [if_neg hc5] at h
              rcases Classical.em ((jI_at 1201 (σ.1 23) x2) = 28) with hc6 | hc6
              · rw [if_pos hc6] at h
                obtain ⟨q10, hq, h⟩ := Option.bind_eq_some_iff.mp h
                have f_q10 := jFr.step h0 (f_cTyp_checkLocal σ x1 x2 σ jFr.rfl q10 hq) (by decide +kernel) (by decide +kernel)
                have h9 := Option.some.inj h
                subst h9
                exact f_q10
              · rw [if_neg hc6] at h
                rcases Classical.em ((jI_at 1201 (σ.1 23) x2) = 29) with hc7 | hc7
                · rw [if_pos hc7] at h
                  obtain ⟨q11, hq, h⟩ := Option.bind_eq_some_iff.mp h
                  have f_q11 := jFr.step h0 (f_cTyp_checkCall σ x2 σ jFr.rfl q11 hq) (by decide +kernel) (by decide +kernel)
                  have h9 := Option.some.inj h
                  subst h9
                  exact f_q11
                · rw [if_neg hc7] at h
                  exact f_cTyp_checkNode_269 σ0 x2 (jI_at 1201 (σ.1 37) x2) σ h0 _ h
def ms_cTre_following : List Nat := []
def fs_cTre_following : List (Nat × Nat) := []
def fk_cTre_following_24 (σ0 : jx_S) (t : ((Int32 × Int32 × jx_S) ⊕ (Int32 × jx_S))) : Prop := match t with
  | .inl s => jFr ms_cTre_following fs_cTre_following σ0 (s.2.2)
  | .inr t => fkI ms_cTre_following fs_cTre_following σ0 t
theorem f_cTre_following_61 (σ0 : jx_S) (x2 : Int32) (σ : jx_S) (h0 : jFr ms_cTre_following fs_cTre_following σ0 σ) (t : (Int32 × jx_S)) (h : p_cTre_following_61 x2 σ = some t) : fkI ms_cTre_following fs_cTre_following σ0 t := by
  unfold p_cTre_following_61 at h
  have h9 := Option.some.inj h
  subst h9
  exact h0
theorem f_cTre_following_24_s (σ0 : jx_S) (x2 : Int32) (x3 : Int32) (σ : jx_S) (h0 : jFr ms_cTre_following fs_cTre_following σ0 σ) (t : ((Int32 × Int32 × jx_S) ⊕ (Int32 × jx_S))) (h : p_cTre_following_24_s x2 x3 σ = some t) : fk_cTre_following_24 σ0 t := by
  unfold p_cTre_following_24_s at h
  rcases Classical.em ((1200 : Int32) ≤ x3) with hc | hc
  · rw [if_pos hc] at h
    obtain ⟨t9_1, h9_1, h8_1⟩ := Option.map_eq_some_iff.mp h
    clear h
    subst h8_1
    have h := h9_1
    clear h9_1
    exact f_cTre_following_61 σ0 x2 σ h0 _ h
  · rw [if_neg hc] at h
    rcases Classical.em (x2 = 0) with hc | hc
    · rw [if_pos hc] at h
      obtain ⟨t9_2, h9_2, h8_2⟩ := Option.map_eq_some_iff.mp h
      clear h
      subst h8_2
      have h := h9_2
      clear h9_2
      exact f_cTre_following_61 σ0 x2 σ h0 _ h
    · rw [if_neg hc] at h
      rcases Classical.em (¬ (jI_at 1201 (σ.1 29) x2) = 0) with hc | hc
      · rw [if_pos hc] at h
        obtain ⟨t9_3, h9_3, h8_3⟩ := Option.map_eq_some_iff.mp h
        clear h
        subst h8_3
        have h := h9_3
        clear h9_3
        exact f_cTre_following_61 σ0 x2 σ h0 _ h
      · rw [if_neg hc] at h
        have h9 := Option.some.inj h
        subst h9
        exact h0
theorem f_cTre_following_24 (σ0 : jx_S) (x2 : Int32) (x3 : Int32) (σ : jx_S) (h0 : jFr ms_cTre_following fs_cTre_following σ0 σ) (t : (Int32 × jx_S)) (h : p_cTre_following_24 x2 x3 σ = some t) : fkI ms_cTre_following fs_cTre_following σ0 t := by
  refine jx_loop_ok (E := fun s t => jFr ms_cTre_following fs_cTre_following σ0 (s.2.2) → fkI ms_cTre_following fs_cTre_following σ0 t) (fun s t hs => ?_) _ _ _ h h0
  cases t with
  | inl s1 => exact fun b hb hf => hb (f_cTre_following_24_s σ0 (s.1) (s.2.1) (s.2.2) hf _ hs)
  | inr b => exact fun hf => f_cTre_following_24_s σ0 (s.1) (s.2.1) (s.2.2) hf _ hs
theorem f_cTre_following (σ0 : jx_S) (x1 : Int32) (σ : jx_S) (h0 : jFr ms_cTre_following fs_cTre_following σ0 σ) (t : (Int32 × jx_S)) (h : p_cTre_following x1 σ = some t) : fkI ms_cTre_following fs_cTre_following σ0 t := by
  unfold p_cTre_following at h
  rcases Classical.em ((jI_at 1201 (σ.1 27) x1) = 0) with hc | hc
  · rw [if_pos hc] at h
    exact f_cTre_following_24 σ0 x1 (0 : Int32) σ h0 _ h
  · rw [if_neg hc] at h
    have h9 := Option.some.inj h
    subst h9
    exact h0
def ms_cTyp_checkBody : List Nat := [33, 37]
def fs_cTyp_checkBody : List (Nat × Nat) := [(1, 0), (1, 1)]
def fk_cTyp_checkBody_36 (σ0 : jx_S) (t : ((Int32 × Int32 × Int32 × jx_S) ⊕ jx_S)) : Prop := match t with
  | .inl s => jFr ms_cTyp_checkBody fs_cTyp_checkBody σ0 (s.2.2.2)
  | .inr t => fkV ms_cTyp_checkBody fs_cTyp_checkBody σ0 t
theorem f_cTyp_checkBody_36_s (σ0 : jx_S) (x1 : Int32) (x2 : Int32) (x3 : Int32) (σ : jx_S) (h0 : jFr ms_cTyp_checkBody fs_cTyp_checkBody σ0 σ) (t : ((Int32 × Int32 × Int32 × jx_S) ⊕ jx_S)) (h : p_cTyp_checkBody_36_s x1 x2 x3 σ = some t) : fk_cTyp_checkBody_36 σ0 t := by
  unfold p_cTyp_checkBody_36_s at h
  rcases Classical.em ((1200 : Int32) ≤ x3) with hc | hc
  · rw [if_pos hc] at h
    obtain ⟨t9_1, h9_1, h8_1⟩ := Option.map_eq_some_iff.mp h
    clear h
    subst h8_1
    have h := h9_1
    clear h9_1
    have h9 := Option.some.inj h
    subst h9
    exact h0
  · rw [if_neg hc] at h
    rcases Classical.em (x2 = 0) with hc | hc
    · rw [if_pos hc] at h
      obtain ⟨t9_2, h9_2, h8_2⟩ := Option.map_eq_some_iff.mp h
      clear h
      subst h8_2
      have h := h9_2
      clear h9_2
      have h9 := Option.some.inj h
      subst h9
      exact h0
    · rw [if_neg hc] at h
      rcases Classical.em (¬ (v_cFau_isTold σ) = 0) with hc | hc
      · rw [if_pos hc] at h
        obtain ⟨t9_3, h9_3, h8_3⟩ := Option.map_eq_some_iff.mp h
        clear h
        subst h8_3
        have h := h9_3
        clear h9_3
        have h9 := Option.some.inj h
        subst h9
        exact h0
      · rw [if_neg hc] at h
        obtain ⟨q4, hq, h⟩ := Option.bind_eq_some_iff.mp h
        have f_q4 := jFr.step h0 (f_cTyp_checkNode σ x1 x2 σ jFr.rfl q4 hq) (by decide +kernel) (by decide +kernel)
        obtain ⟨q5, hq, h⟩ := Option.bind_eq_some_iff.mp h
        have f_q5 := jFr.step f_q4 (f_cTre_following q4 x2 q4 jFr.rfl q5 hq) (by decide +kernel) (by decide +kernel)
        have h9 := Option.some.inj h
        subst h9
        exact f_q5
theorem f_cTyp_checkBody_36 (σ0 : jx_S) (x1 : Int32) (x2 : Int32) (x3 : Int32) (σ : jx_S) (h0 : jFr ms_cTyp_checkBody fs_cTyp_checkBody σ0 σ) (t : jx_S) (h : p_cTyp_checkBody_36 x1 x2 x3 σ = some t) : fkV ms_cTyp_checkBody fs_cTyp_checkBody σ0 t := by
  refine jx_loop_ok (E := fun s t => jFr ms_cTyp_checkBody fs_cTyp_checkBody σ0 (s.2.2.2) → fkV ms_cTyp_checkBody fs_cTyp_checkBody σ0 t) (fun s t hs => ?_) _ _ _ h h0
  cases t with
  | inl s1 => exact fun b hb hf => hb (f_cTyp_checkBody_36_s σ0 (s.1) (s.2.1) (s.2.2.1) (s.2.2.2) hf _ hs)
  | inr b => exact fun hf => f_cTyp_checkBody_36_s σ0 (s.1) (s.2.1) (s.2.2.1) (s.2.2.2) hf _ hs
theorem f_cTyp_checkBody (σ0 : jx_S) (x1 : Int32) (σ : jx_S) (h0 : jFr ms_cTyp_checkBody fs_cTyp_checkBody σ0 σ) (t : jx_S) (h : p_cTyp_checkBody x1 σ = some t) : fkV ms_cTyp_checkBody fs_cTyp_checkBody σ0 t := by
  unfold p_cTyp_checkBody at h
  exact f_cTyp_checkBody_36 σ0 x1 (jI_at 40 (σ.1 51) x1) (0 : Int32) (jI_put 1201 σ 37 (jI_at 40 (σ.1 51) x1) (jI_at 40 (σ.1 45) x1)) (jFr.ip h0 (by decide)) _ h
def ms_cTyp_countCases : List Nat := [53]
def fs_cTyp_countCases : List (Nat × Nat) := [(1, 0), (1, 1)]
def fk_cTyp_countCases_4 (σ0 : jx_S) (t : ((Int32 × Int32 × Int32 × jx_S) ⊕ jx_S)) : Prop := match t with
  | .inl s => jFr ms_cTyp_countCases fs_cTyp_countCases σ0 (s.2.2.2)
  | .inr t => fkV ms_cTyp_countCases fs_cTyp_countCases σ0 t
theorem f_cTyp_countCases_64 (σ0 : jx_S) (x1 : Int32) (x2 : Int32) (σ : jx_S) (h0 : jFr ms_cTyp_countCases fs_cTyp_countCases σ0 σ) (t : jx_S) (h : p_cTyp_countCases_64 x1 x2 σ = some t) : fkV ms_cTyp_countCases fs_cTyp_countCases σ0 t := by
  unfold p_cTyp_countCases_64 at h
  have h9 := Option.some.inj h
  subst h9
  exact (jFr.ip h0 (by decide))
theorem f_cTyp_countCases_4_s (σ0 : jx_S) (x1 : Int32) (x2 : Int32) (x3 : Int32) (σ : jx_S) (h0 : jFr ms_cTyp_countCases fs_cTyp_countCases σ0 σ) (t : ((Int32 × Int32 × Int32 × jx_S) ⊕ jx_S)) (h : p_cTyp_countCases_4_s x1 x2 x3 σ = some t) : fk_cTyp_countCases_4 σ0 t := by
  unfold p_cTyp_countCases_4_s at h
  rcases Classical.em ((jI_at 40 (σ.1 43) x1) ≤ x3) with hc | hc
  · rw [if_pos hc] at h
    obtain ⟨t9_2, h9_2, h8_2⟩ := Option.map_eq_some_iff.mp h
    clear h
    subst h8_2
    have h := h9_2
    clear h9_2
    rcases Classical.em (x2 ≤ (1000 : Int32)) with hc | hc
    · rw [if_pos hc] at h
      exact f_cTyp_countCases_64 σ0 x1 x2 σ h0 _ h
    · rw [if_neg hc] at h
      obtain ⟨q1, hq, h⟩ := Option.bind_eq_some_iff.mp h
      have f_q1 := jFr.step h0 (f_cTyp_tell σ (8 : Int32) (jI_at 40 (σ.1 41) x1) σ jFr.rfl q1 hq) (by decide +kernel) (by decide +kernel)
      exact f_cTyp_countCases_64 σ0 x1 x2 q1 f_q1 _ h
  · rw [if_neg hc] at h
    have h9 := Option.some.inj h
    subst h9
    exact h0
theorem f_cTyp_countCases_4 (σ0 : jx_S) (x1 : Int32) (x2 : Int32) (x3 : Int32) (σ : jx_S) (h0 : jFr ms_cTyp_countCases fs_cTyp_countCases σ0 σ) (t : jx_S) (h : p_cTyp_countCases_4 x1 x2 x3 σ = some t) : fkV ms_cTyp_countCases fs_cTyp_countCases σ0 t := by
  refine jx_loop_ok (E := fun s t => jFr ms_cTyp_countCases fs_cTyp_countCases σ0 (s.2.2.2) → fkV ms_cTyp_countCases fs_cTyp_countCases σ0 t) (fun s t hs => ?_) _ _ _ h h0
  cases t with
  | inl s1 => exact fun b hb hf => hb (f_cTyp_countCases_4_s σ0 (s.1) (s.2.1) (s.2.2.1) (s.2.2.2) hf _ hs)
  | inr b => exact fun hf => f_cTyp_countCases_4_s σ0 (s.1) (s.2.1) (s.2.2.1) (s.2.2.2) hf _ hs
theorem f_cTyp_countCases (σ0 : jx_S) (x1 : Int32) (σ : jx_S) (h0 : jFr ms_cTyp_countCases fs_cTyp_countCases σ0 σ) (t : jx_S) (h : p_cTyp_countCases x1 σ = some t) : fkV ms_cTyp_countCases fs_cTyp_countCases σ0 t := by
  unfold p_cTyp_countCases at h
  exact f_cTyp_countCases_4 σ0 x1 (1 : Int32) (0 : Int32) σ h0 _ h
