/-! COMPILE, 3: the reference's place: written only with a fault; printed by wip/gen/emitk.py out of the frames. -/
def kQ (σ τ : jx_S) : Prop := τ.1 106 4 = 0 → σ.1 106 4 = 0 ∧ τ.1 106 5 = σ.1 106 5
theorem kQ.rfl {σ : jx_S} : kQ σ σ := fun h => ⟨h, Eq.refl _⟩
theorem kQ.step {σ τ υ : jx_S} (h : kQ σ τ) (k : kQ τ υ) : kQ σ υ := fun q => by
  obtain ⟨a, b⟩ := k q
  obtain ⟨c, d⟩ := h a
  exact ⟨c, b.trans d⟩
theorem kQ.i {σ τ : jx_S} {k j : Nat} {v : Int32} (h : kQ σ τ) (hk : k ≠ 106 ∨ (j ≠ 4 ∧ j ≠ 5)) : kQ σ (jx_i τ k j v) := fun q => by
  have e4 : (jx_i τ k j v).1 106 4 = τ.1 106 4 := by
    show (if 106 = k ∧ 4 = j then v else τ.1 106 4) = _
    rw [if_neg (by omega)]
  have e5 : (jx_i τ k j v).1 106 5 = τ.1 106 5 := by
    show (if 106 = k ∧ 5 = j then v else τ.1 106 5) = _
    rw [if_neg (by omega)]
  rw [e4] at q
  rw [e5]; exact h q
theorem kQ.ia {σ τ : jx_S} {k j : Nat} {v : Int32} (h : kQ σ τ) (hk : k ≠ 106) : kQ σ (jx_i τ k j v) := kQ.i h (Or.inl hk)
theorem kQ.l {σ τ : jx_S} {k j : Nat} {v : Int64} (h : kQ σ τ) (hk : True) : kQ σ (jx_l τ k j v) := h
theorem kQ.la {σ τ : jx_S} {k j : Nat} {v : Int64} (h : kQ σ τ) (hk : True) : kQ σ (jx_l τ k j v) := h
theorem kQ.fr {ms : List Nat} {fs : List (Nat × Nat)} {σ τ : jx_S} (h : jFr ms fs σ τ) (h1 : 106 ∉ ms) (h2 : (106, 4) ∉ fs) (h3 : (106, 5) ∉ fs) : kQ σ τ := fun q => ⟨(h 106 4 h1 h2).1.symm.trans q, (h 106 5 h1 h3).1⟩
def kqV (σ t : jx_S) : Prop := kQ σ t
def kqI (σ : jx_S) (t : Int32 × jx_S) : Prop := kQ σ t.2
theorem k_r_fails (σ0 : jx_S) (x1 : Int32) (x2 : Int32) (σ : jx_S) (h0 : kQ σ0 σ) (t : Int32 × jx_S) (h : p_r_fails x1 x2 σ = some t) (hx : x1 ≠ 0) : kqI σ0 t := by
  unfold p_r_fails at h
  rcases Classical.em (¬ (σ.1 106 4) = 0) with hc | hc
  · rw [if_pos hc] at h
    have h9 := Option.some.inj h
    subst h9
    exact h0
  · rw [if_neg hc] at h
    have h9 := Option.some.inj h
    subst h9
    intro q
    have e4 : (jx_i (jx_i σ 106 4 x1) 106 5 x2).1 106 4 = x1 := rfl
    exact absurd (e4.symm.trans q) hx
theorem k_r_stop (σ0 : jx_S) (x1 : Int32) (x2 : Int32) (σ : jx_S) (h0 : kQ σ0 σ) (t : jx_S) (h : p_r_stop x1 x2 σ = some t) (hx : x1 ≠ 0) : kqV σ0 t := by
  unfold p_r_stop at h
  obtain ⟨hi, h⟩ := jx_ite0_inv h
  obtain ⟨q1, hq, h⟩ := Option.bind_eq_some_iff.mp h
  have f_q1 := kQ.step h0 (k_r_fails σ x1 ((σ.1 109) (x2).toNatClampNeg) σ kQ.rfl q1 hq hx)
  obtain ⟨hb, h⟩ := jx_ite_inv h
  have h9 := Option.some.inj h
  subst h9
  exact (kQ.i f_q1 (by decide))
def kq_r_scan_7 (σ0 : jx_S) (t : ((Int32 × jx_S) ⊕ (Int32 × jx_S))) : Prop := match t with
  | .inl s => kQ σ0 (s.2)
  | .inr t => kqI σ0 t
theorem k_r_scan_282 (σ0 : jx_S) (x1 : Int32) (σ : jx_S) (h0 : kQ σ0 σ) (t : ((Int32 × jx_S) ⊕ (Int32 × jx_S))) (h : p_r_scan_282 x1 σ = some t) : kq_r_scan_7 σ0 t := by
  unfold p_r_scan_282 at h
  have h9 := Option.some.inj h
  subst h9
  exact h0
theorem k_r_scan_33 (σ0 : jx_S) (x1 : Int32) (σ : jx_S) (h0 : kQ σ0 σ) (t : ((Int32 × jx_S) ⊕ (Int32 × jx_S))) (h : p_r_scan_33 x1 σ = some t) : kq_r_scan_7 σ0 t := by
  unfold p_r_scan_33 at h
  exact k_r_scan_282 σ0 (x1 + 1) σ h0 _ h
theorem k_r_scan_218 (σ0 : jx_S) (x1 : Int32) (σ : jx_S) (h0 : kQ σ0 σ) (t : (Int32 × jx_S)) (h : p_r_scan_218 x1 σ = some t) : kqI σ0 t := by
  unfold p_r_scan_218 at h
  obtain ⟨q4, hq, h⟩ := Option.bind_eq_some_iff.mp h
  have f_q4 := kQ.step h0 (k_r_fails σ (1 : Int32) x1 σ kQ.rfl q4 hq (by decide))
  obtain ⟨hb, h⟩ := jx_ite_inv h
  have h9 := Option.some.inj h
  subst h9
  exact f_q4
theorem k_r_scan_202 (σ0 : jx_S) (x1 : Int32) (x3 : Int32) (x4 : Int64) (x6 : Int32) (σ : jx_S) (h0 : kQ σ0 σ) (t : ((Int32 × jx_S) ⊕ (Int32 × jx_S))) (h : p_r_scan_202 x1 x3 x4 x6 σ = some t) : kq_r_scan_7 σ0 t := by
  unfold p_r_scan_202 at h
  rcases Classical.em (x6 = (-1 : Int32)) with hc | hc
  · rw [if_pos hc] at h
    obtain ⟨t9_5, h9_5, h8_5⟩ := Option.map_eq_some_iff.mp h
    clear h
    subst h8_5
    have h := h9_5
    clear h9_5
    exact k_r_scan_218 σ0 x1 σ h0 _ h
  · rw [if_neg hc] at h
    rcases Classical.em (¬ (σ.1 106 10) = (1200 : Int32)) with hc | hc
    · rw [if_pos hc] at h
      obtain ⟨hi, h⟩ := jx_ite0_inv h
      obtain ⟨hi, h⟩ := jx_ite0_inv h
      obtain ⟨hi, h⟩ := jx_ite0_inv h
      obtain ⟨hi, h⟩ := jx_ite0_inv h
      exact k_r_scan_282 σ0 x3 (jx_i (jx_i (jx_i (jx_i (jx_i σ 108 ((σ.1 106 10)).toNatClampNeg x6) 109 ((σ.1 106 10)).toNatClampNeg x1) 110 ((σ.1 106 10)).toNatClampNeg (x3 - x1)) 111 ((σ.1 106 10)).toNatClampNeg (x4).toInt32) 106 10 ((σ.1 106 10) + (1 : Int32))) (kQ.i (kQ.ia (kQ.ia (kQ.ia (kQ.ia h0 (by decide)) (by decide)) (by decide)) (by decide)) (by decide)) _ h
    · rw [if_neg hc] at h
      obtain ⟨t9_6, h9_6, h8_6⟩ := Option.map_eq_some_iff.mp h
      clear h
      subst h8_6
      have h := h9_6
      clear h9_6
      exact k_r_scan_218 σ0 x1 σ h0 _ h
theorem k_r_scan_200 (σ0 : jx_S) (x1 : Int32) (x4 : Int64) (x6 : Int32) (y0 : Int32) (y1 : Int32) (σ : jx_S) (h0 : kQ σ0 σ) (t : ((Int32 × jx_S) ⊕ (Int32 × jx_S))) (h : p_r_scan_200 x1 x4 x6 y0 y1 σ = some t) : kq_r_scan_7 σ0 t := by
  unfold p_r_scan_200 at h
  exact k_r_scan_202 σ0 x1 (y1 + y0) x4 x6 σ h0 _ h
def kq_r_scan_118 (σ0 : jx_S) (t : ((Int32 × Int32 × Int64 × jx_S) ⊕ ((Int32 × jx_S) ⊕ (Int32 × jx_S)))) : Prop := match t with
  | .inl s => kQ σ0 (s.2.2.2)
  | .inr t => kq_r_scan_7 σ0 t
theorem k_r_scan_182 (σ0 : jx_S) (x1 : Int32) (x3 : Int32) (x4 : Int64) (y0 : Int32) (σ : jx_S) (h0 : kQ σ0 σ) (t : ((Int32 × jx_S) ⊕ (Int32 × jx_S))) (h : p_r_scan_182 x1 x3 x4 y0 σ = some t) : kq_r_scan_7 σ0 t := by
  unfold p_r_scan_182 at h
  exact k_r_scan_202 σ0 x1 x3 x4 y0 σ h0 _ h
theorem k_r_scan_160 (σ0 : jx_S) (x1 : Int32) (x3 : Int32) (y0 : Int64) (σ : jx_S) (h0 : kQ σ0 σ) (t : ((Int32 × Int32 × Int64 × jx_S) ⊕ ((Int32 × jx_S) ⊕ (Int32 × jx_S)))) (h : p_r_scan_160 x1 x3 y0 σ = some t) : kq_r_scan_118 σ0 t := by
  unfold p_r_scan_160 at h
  have h9 := Option.some.inj h
  subst h9
  exact h0
theorem k_r_scan_118_s (σ0 : jx_S) (x1 : Int32) (x3 : Int32) (x4 : Int64) (σ : jx_S) (h0 : kQ σ0 σ) (t : ((Int32 × Int32 × Int64 × jx_S) ⊕ ((Int32 × jx_S) ⊕ (Int32 × jx_S)))) (h : p_r_scan_118_s x1 x3 x4 σ = some t) : kq_r_scan_118 σ0 t := by
  unfold p_r_scan_118_s at h
  obtain ⟨q7, hq, h⟩ := Option.bind_eq_some_iff.mp h
  have f_q7 := kQ.step h0 (kQ.fr (f_r_octet σ x3 σ jFr.rfl q7 hq) (by decide) (by decide) (by decide))
  rcases Classical.em ((v_r_isDigit q7.1 q7.2) = 0) with hc | hc
  · rw [if_pos hc] at h
    obtain ⟨t9_8, h9_8, h8_8⟩ := Option.map_eq_some_iff.mp h
    clear h
    subst h8_8
    have h := h9_8
    clear h9_8
    rcases Classical.em ((lg_cmp x4 (2147483647 : Int64)) ≤ 0) with hc | hc
    · rw [if_pos hc] at h
      exact k_r_scan_182 σ0 x1 x3 x4 (2 : Int32) q7.2 f_q7 _ h
    · rw [if_neg hc] at h
      exact k_r_scan_182 σ0 x1 x3 x4 (-1 : Int32) q7.2 f_q7 _ h
  · rw [if_neg hc] at h
    rcases Classical.em ((lg_cmp x4 (2147483647 : Int64)) ≤ 0) with hc | hc
    · rw [if_pos hc] at h
      obtain ⟨q9, hq, h⟩ := Option.bind_eq_some_iff.mp h
      have f_q9 := kQ.step f_q7 (kQ.fr (f_r_octet q7.2 x3 q7.2 jFr.rfl q9 hq) (by decide) (by decide) (by decide))
      exact k_r_scan_160 σ0 x1 x3 ((((10 : Int64) * x4) + (q9.1).toInt64) - (48 : Int64)) q9.2 f_q9 _ h
    · rw [if_neg hc] at h
      exact k_r_scan_160 σ0 x1 x3 x4 q7.2 f_q7 _ h
theorem k_r_scan_118 (σ0 : jx_S) (x1 : Int32) (x3 : Int32) (x4 : Int64) (σ : jx_S) (h0 : kQ σ0 σ) (t : ((Int32 × jx_S) ⊕ (Int32 × jx_S))) (h : p_r_scan_118 x1 x3 x4 σ = some t) : kq_r_scan_7 σ0 t := by
  refine jx_loop_ok (E := fun s t => kQ σ0 (s.2.2.2) → kq_r_scan_7 σ0 t) (fun s t hs => ?_) _ _ _ h h0
  cases t with
  | inl s1 => exact fun b hb hf => hb (k_r_scan_118_s σ0 (s.1) (s.2.1) (s.2.2.1) (s.2.2.2) hf _ hs)
  | inr b => exact fun hf => k_r_scan_118_s σ0 (s.1) (s.2.1) (s.2.2.1) (s.2.2.2) hf _ hs
def kq_r_scan_58 (σ0 : jx_S) (t : ((Int32 × Int32 × Int64 × jx_S) ⊕ ((Int32 × jx_S) ⊕ (Int32 × jx_S)))) : Prop := match t with
  | .inl s => kQ σ0 (s.2.2.2)
  | .inr t => kq_r_scan_7 σ0 t
theorem k_r_scan_80 (σ0 : jx_S) (x1 : Int32) (x3 : Int32) (x4 : Int64) (σ : jx_S) (h0 : kQ σ0 σ) (t : ((Int32 × Int32 × Int64 × jx_S) ⊕ ((Int32 × jx_S) ⊕ (Int32 × jx_S)))) (h : p_r_scan_80 x1 x3 x4 σ = some t) : kq_r_scan_58 σ0 t := by
  unfold p_r_scan_80 at h
  have h9 := Option.some.inj h
  subst h9
  exact h0
theorem k_r_scan_106 (σ0 : jx_S) (x1 : Int32) (x3 : Int32) (x4 : Int64) (y0 : Int32) (σ : jx_S) (h0 : kQ σ0 σ) (t : ((Int32 × jx_S) ⊕ (Int32 × jx_S))) (h : p_r_scan_106 x1 x3 x4 y0 σ = some t) : kq_r_scan_7 σ0 t := by
  unfold p_r_scan_106 at h
  exact k_r_scan_202 σ0 x1 x3 x4 y0 σ h0 _ h
theorem k_r_scan_58_s (σ0 : jx_S) (x1 : Int32) (x3 : Int32) (x4 : Int64) (σ : jx_S) (h0 : kQ σ0 σ) (t : ((Int32 × Int32 × Int64 × jx_S) ⊕ ((Int32 × jx_S) ⊕ (Int32 × jx_S)))) (h : p_r_scan_58_s x1 x3 x4 σ = some t) : kq_r_scan_58 σ0 t := by
  unfold p_r_scan_58_s at h
  obtain ⟨q10, hq, h⟩ := Option.bind_eq_some_iff.mp h
  have f_q10 := kQ.step h0 (kQ.fr (f_r_octet σ x3 σ jFr.rfl q10 hq) (by decide) (by decide) (by decide))
  rcases Classical.em (¬ (v_r_isLetter q10.1 q10.2) = 0) with hc | hc
  · rw [if_pos hc] at h
    exact k_r_scan_80 σ0 x1 x3 x4 q10.2 f_q10 _ h
  · rw [if_neg hc] at h
    obtain ⟨q11, hq, h⟩ := Option.bind_eq_some_iff.mp h
    have f_q11 := kQ.step f_q10 (kQ.fr (f_r_octet q10.2 x3 q10.2 jFr.rfl q11 hq) (by decide) (by decide) (by decide))
    rcases Classical.em ((v_r_isDigit q11.1 q11.2) = 0) with hc | hc
    · rw [if_pos hc] at h
      obtain ⟨t9_13, h9_13, h8_13⟩ := Option.map_eq_some_iff.mp h
      clear h
      subst h8_13
      have h := h9_13
      clear h9_13
      rcases Classical.em ((x3 - x1) ≤ (12 : Int32)) with hc | hc
      · rw [if_pos hc] at h
        obtain ⟨q12, hq, h⟩ := Option.bind_eq_some_iff.mp h
        have f_q12 := kQ.step f_q11 (kQ.fr (f_r_wordAt q11.2 x1 (x3 - x1) q11.2 jFr.rfl q12 hq) (by decide) (by decide) (by decide))
        exact k_r_scan_106 σ0 x1 x3 x4 q12.1 q12.2 f_q12 _ h
      · rw [if_neg hc] at h
        exact k_r_scan_106 σ0 x1 x3 x4 (-1 : Int32) q11.2 f_q11 _ h
    · rw [if_neg hc] at h
      exact k_r_scan_80 σ0 x1 x3 x4 q11.2 f_q11 _ h
theorem k_r_scan_58 (σ0 : jx_S) (x1 : Int32) (x3 : Int32) (x4 : Int64) (σ : jx_S) (h0 : kQ σ0 σ) (t : ((Int32 × jx_S) ⊕ (Int32 × jx_S))) (h : p_r_scan_58 x1 x3 x4 σ = some t) : kq_r_scan_7 σ0 t := by
  refine jx_loop_ok (E := fun s t => kQ σ0 (s.2.2.2) → kq_r_scan_7 σ0 t) (fun s t hs => ?_) _ _ _ h h0
  cases t with
  | inl s1 => exact fun b hb hf => hb (k_r_scan_58_s σ0 (s.1) (s.2.1) (s.2.2.1) (s.2.2.2) hf _ hs)
  | inr b => exact fun hf => k_r_scan_58_s σ0 (s.1) (s.2.1) (s.2.2.1) (s.2.2.2) hf _ hs
theorem k_r_scan_7_s (σ0 : jx_S) (x1 : Int32) (σ : jx_S) (h0 : kQ σ0 σ) (t : ((Int32 × jx_S) ⊕ (Int32 × jx_S))) (h : p_r_scan_7_s x1 σ = some t) : kq_r_scan_7 σ0 t := by
  unfold p_r_scan_7_s at h
  rcases Classical.em ((σ.1 106 1) ≤ x1) with hc | hc
  · rw [if_pos hc] at h
    obtain ⟨t9_1, h9_1, h8_1⟩ := Option.map_eq_some_iff.mp h
    clear h
    subst h8_1
    have h := h9_1
    clear h9_1
    obtain ⟨hi, h⟩ := jx_ite0_inv h
    obtain ⟨hi, h⟩ := jx_ite0_inv h
    have h9 := Option.some.inj h
    subst h9
    exact (kQ.ia (kQ.ia h0 (by decide)) (by decide))
  · rw [if_neg hc] at h
    obtain ⟨q2, hq, h⟩ := Option.bind_eq_some_iff.mp h
    have f_q2 := kQ.step h0 (kQ.fr (f_r_octet σ x1 σ jFr.rfl q2 hq) (by decide) (by decide) (by decide))
    rcases Classical.em (q2.1 = (32 : Int32)) with hc | hc
    · rw [if_pos hc] at h
      exact k_r_scan_33 σ0 x1 q2.2 f_q2 _ h
    · rw [if_neg hc] at h
      rcases Classical.em (¬ q2.1 = (10 : Int32)) with hc | hc
      · rw [if_pos hc] at h
        obtain ⟨q3, hq, h⟩ := Option.bind_eq_some_iff.mp h
        have f_q3 := kQ.step f_q2 (kQ.fr (f_r_signAt q2.2 x1 q2.2 jFr.rfl q3 hq) (by decide) (by decide) (by decide))
        rcases Classical.em ((v_r_isLetter q2.1 q3.2) = 0) with hc | hc
        · rw [if_pos hc] at h
          rcases Classical.em ((v_r_isDigit q2.1 q3.2) = 0) with hc | hc
          · rw [if_pos hc] at h
            rcases Classical.em (¬ q3.1 = (21 : Int32)) with hc | hc
            · rw [if_pos hc] at h
              exact k_r_scan_200 σ0 x1 (0 : Int64) q3.1 (1 : Int32) x1 q3.2 f_q3 _ h
            · rw [if_neg hc] at h
              exact k_r_scan_200 σ0 x1 (0 : Int64) q3.1 (2 : Int32) x1 q3.2 f_q3 _ h
          · rw [if_neg hc] at h
            exact k_r_scan_118 σ0 x1 x1 (0 : Int64) q3.2 f_q3 _ h
        · rw [if_neg hc] at h
          exact k_r_scan_58 σ0 x1 x1 (0 : Int64) q3.2 f_q3 _ h
      · rw [if_neg hc] at h
        exact k_r_scan_33 σ0 x1 q2.2 f_q2 _ h
theorem k_r_scan_7 (σ0 : jx_S) (x1 : Int32) (σ : jx_S) (h0 : kQ σ0 σ) (t : (Int32 × jx_S)) (h : p_r_scan_7 x1 σ = some t) : kqI σ0 t := by
  refine jx_loop_ok (E := fun s t => kQ σ0 (s.2) → kqI σ0 t) (fun s t hs => ?_) _ _ _ h h0
  cases t with
  | inl s1 => exact fun b hb hf => hb (k_r_scan_7_s σ0 (s.1) (s.2) hf _ hs)
  | inr b => exact fun hf => k_r_scan_7_s σ0 (s.1) (s.2) hf _ hs
theorem k_r_scan (σ0 : jx_S) (σ : jx_S) (h0 : kQ σ0 σ) (t : (Int32 × jx_S)) (h : p_r_scan σ = some t) : kqI σ0 t := by
  unfold p_r_scan at h
  exact k_r_scan_7 σ0 (0 : Int32) (jx_i σ 106 10 (0 : Int32)) (kQ.i h0 (by decide)) _ h
theorem k_r_expect_29 (σ0 : jx_S) (σ : jx_S) (h0 : kQ σ0 σ) (t : jx_S) (h : p_r_expect_29 σ = some t) : kqV σ0 t := by
  unfold p_r_expect_29 at h
  rcases Classical.em ((σ.1 106 41) = 0) with hc | hc
  · rw [if_pos hc] at h
    have h9 := Option.some.inj h
    subst h9
    exact (kQ.i h0 (by decide))
  · rw [if_neg hc] at h
    have h9 := Option.some.inj h
    subst h9
    exact (kQ.i h0 (by decide))
theorem k_r_expect (σ0 : jx_S) (x1 : Int32) (σ : jx_S) (h0 : kQ σ0 σ) (t : jx_S) (h : p_r_expect x1 σ = some t) : kqV σ0 t := by
  unfold p_r_expect at h
  rcases Classical.em ((σ.1 106 41) = 0) with hc | hc
  · rw [if_pos hc] at h
    exact k_r_expect_29 σ0 σ h0 _ h
  · rw [if_neg hc] at h
    obtain ⟨hi, h⟩ := jx_ite0_inv h
    rcases Classical.em (((σ.1 108) ((σ.1 106 40)).toNatClampNeg) = x1) with hc | hc
    · rw [if_pos hc] at h
      exact k_r_expect_29 σ0 σ h0 _ h
    · rw [if_neg hc] at h
      obtain ⟨q1, hq, h⟩ := Option.bind_eq_some_iff.mp h
      have f_q1 := kQ.step h0 (k_r_stop σ (2 : Int32) (σ.1 106 40) σ kQ.rfl q1 hq (by decide))
      exact k_r_expect_29 σ0 q1 f_q1 _ h
theorem k_r_baseType_61 (σ0 : jx_S) (x1 : Int32) (σ : jx_S) (h0 : kQ σ0 σ) (t : (Int32 × jx_S)) (h : p_r_baseType_61 x1 σ = some t) : kqI σ0 t := by
  unfold p_r_baseType_61 at h
  rcases Classical.em ((σ.1 106 41) = 0) with hc | hc
  · rw [if_pos hc] at h
    have h9 := Option.some.inj h
    subst h9
    exact (kQ.i h0 (by decide))
  · rw [if_neg hc] at h
    have h9 := Option.some.inj h
    subst h9
    exact (kQ.i h0 (by decide))
theorem k_r_baseType_18 (σ0 : jx_S) (y0 : Int32) (σ : jx_S) (h0 : kQ σ0 σ) (t : (Int32 × jx_S)) (h : p_r_baseType_18 y0 σ = some t) : kqI σ0 t := by
  unfold p_r_baseType_18 at h
  rcases Classical.em ((σ.1 106 41) = 0) with hc | hc
  · rw [if_pos hc] at h
    exact k_r_baseType_61 σ0 y0 σ h0 _ h
  · rw [if_neg hc] at h
    obtain ⟨hi, h⟩ := jx_ite0_inv h
    rcases Classical.em (((σ.1 108) ((σ.1 106 40)).toNatClampNeg) = (3 : Int32)) with hc | hc
    · rw [if_pos hc] at h
      exact k_r_baseType_61 σ0 y0 σ h0 _ h
    · rw [if_neg hc] at h
      obtain ⟨hi, h⟩ := jx_ite0_inv h
      rcases Classical.em (((σ.1 108) ((σ.1 106 40)).toNatClampNeg) = (4 : Int32)) with hc | hc
      · rw [if_pos hc] at h
        exact k_r_baseType_61 σ0 y0 σ h0 _ h
      · rw [if_neg hc] at h
        obtain ⟨q1, hq, h⟩ := Option.bind_eq_some_iff.mp h
        have f_q1 := kQ.step h0 (k_r_stop σ (2 : Int32) (σ.1 106 40) σ kQ.rfl q1 hq (by decide))
        exact k_r_baseType_61 σ0 y0 q1 f_q1 _ h
theorem k_r_baseType (σ0 : jx_S) (σ : jx_S) (h0 : kQ σ0 σ) (t : (Int32 × jx_S)) (h : p_r_baseType σ = some t) : kqI σ0 t := by
  unfold p_r_baseType at h
  obtain ⟨hi, h⟩ := jx_ite0_inv h
  rcases Classical.em (¬ ((σ.1 108) ((σ.1 106 40)).toNatClampNeg) = (4 : Int32)) with hc | hc
  · rw [if_pos hc] at h
    exact k_r_baseType_18 σ0 (0 : Int32) σ h0 _ h
  · rw [if_neg hc] at h
    exact k_r_baseType_18 σ0 (1 : Int32) σ h0 _ h
theorem k_r_typeText (σ0 : jx_S) (σ : jx_S) (h0 : kQ σ0 σ) (t : (Int32 × jx_S)) (h : p_r_typeText σ = some t) : kqI σ0 t := by
  unfold p_r_typeText at h
  obtain ⟨q1, hq, h⟩ := Option.bind_eq_some_iff.mp h
  have f_q1 := kQ.step h0 (k_r_baseType σ σ kQ.rfl q1 hq)
  rcases Classical.em ((q1.2.1 106 41) = 0) with hc | hc
  · rw [if_pos hc] at h
    have h9 := Option.some.inj h
    subst h9
    exact f_q1
  · rw [if_neg hc] at h
    obtain ⟨hi, h⟩ := jx_ite0_inv h
    rcases Classical.em (((q1.2.1 108) ((q1.2.1 106 40)).toNatClampNeg) = (21 : Int32)) with hc | hc
    · rw [if_pos hc] at h
      obtain ⟨q2, hq, h⟩ := Option.bind_eq_some_iff.mp h
      have f_q2 := kQ.step (kQ.i f_q1 (by decide)) (k_r_baseType (jx_i q1.2 106 40 ((q1.2.1 106 40) + (1 : Int32))) (jx_i q1.2 106 40 ((q1.2.1 106 40) + (1 : Int32))) kQ.rfl q2 hq)
      rcases Classical.em ((q2.2.1 106 41) = 0) with hc | hc
      · rw [if_pos hc] at h
        have h9 := Option.some.inj h
        subst h9
        exact f_q2
      · rw [if_neg hc] at h
        obtain ⟨hi, h⟩ := jx_ite0_inv h
        rcases Classical.em (((q2.2.1 108) ((q2.2.1 106 40)).toNatClampNeg) = (21 : Int32)) with hc | hc
        · rw [if_pos hc] at h
          obtain ⟨q3, hq, h⟩ := Option.bind_eq_some_iff.mp h
          have f_q3 := kQ.step (kQ.i f_q2 (by decide)) (k_r_baseType (jx_i q2.2 106 40 ((q2.2.1 106 40) + (1 : Int32))) (jx_i q2.2 106 40 ((q2.2.1 106 40) + (1 : Int32))) kQ.rfl q3 hq)
          have h9 := Option.some.inj h
          subst h9
          exact f_q3
        · rw [if_neg hc] at h
          have h9 := Option.some.inj h
          subst h9
          exact f_q2
    · rw [if_neg hc] at h
      have h9 := Option.some.inj h
      subst h9
      exact f_q1
theorem k_r_declare_54 (σ0 : jx_S) (x1 : Int32) (σ : jx_S) (h0 : kQ σ0 σ) (t : (Int32 × jx_S)) (h : p_r_declare_54 x1 σ = some t) : kqI σ0 t := by
  unfold p_r_declare_54 at h
  rcases Classical.em ((σ.1 106 41) = 0) with hc | hc
  · rw [if_pos hc] at h
    have h9 := Option.some.inj h
    subst h9
    exact h0
  · rw [if_neg hc] at h
    obtain ⟨hi, h⟩ := jx_ite0_inv h
    have h9 := Option.some.inj h
    subst h9
    exact (kQ.i (kQ.i (kQ.ia h0 (by decide)) (by decide)) (by decide))
theorem k_r_declare_29 (σ0 : jx_S) (x1 : Int32) (σ : jx_S) (h0 : kQ σ0 σ) (t : (Int32 × jx_S)) (h : p_r_declare_29 x1 σ = some t) : kqI σ0 t := by
  unfold p_r_declare_29 at h
  rcases Classical.em ((σ.1 106 41) = 0) with hc | hc
  · rw [if_pos hc] at h
    exact k_r_declare_54 σ0 x1 σ h0 _ h
  · rw [if_neg hc] at h
    rcases Classical.em (¬ (σ.1 106 49) = (30 : Int32)) with hc | hc
    · rw [if_pos hc] at h
      exact k_r_declare_54 σ0 x1 σ h0 _ h
    · rw [if_neg hc] at h
      obtain ⟨q1, hq, h⟩ := Option.bind_eq_some_iff.mp h
      have f_q1 := kQ.step h0 (k_r_stop σ (4 : Int32) (σ.1 106 40) σ kQ.rfl q1 hq (by decide))
      exact k_r_declare_54 σ0 x1 q1 f_q1 _ h
theorem k_r_declare (σ0 : jx_S) (x1 : Int32) (σ : jx_S) (h0 : kQ σ0 σ) (t : (Int32 × jx_S)) (h : p_r_declare x1 σ = some t) : kqI σ0 t := by
  unfold p_r_declare at h
  rcases Classical.em ((σ.1 106 41) = 0) with hc | hc
  · rw [if_pos hc] at h
    exact k_r_declare_29 σ0 x1 σ h0 _ h
  · rw [if_neg hc] at h
    obtain ⟨hi, h⟩ := jx_ite0_inv h
    rcases Classical.em (((σ.1 108) ((σ.1 106 40)).toNatClampNeg) = (1 : Int32)) with hc | hc
    · rw [if_pos hc] at h
      exact k_r_declare_29 σ0 x1 σ h0 _ h
    · rw [if_neg hc] at h
      obtain ⟨q2, hq, h⟩ := Option.bind_eq_some_iff.mp h
      have f_q2 := kQ.step h0 (k_r_stop σ (2 : Int32) (σ.1 106 40) σ kQ.rfl q2 hq (by decide))
      exact k_r_declare_29 σ0 x1 q2 f_q2 _ h
theorem k_r_expression_122 (σ0 : jx_S) (x1 : Int32) (x2 : Int32) (x3 : Int32) (σ : jx_S) (h0 : kQ σ0 σ) (t : jx_S) (h : p_r_expression_122 x1 x2 x3 σ = some t) : kqV σ0 t := by
  unfold p_r_expression_122 at h
  obtain ⟨q12, hq, h⟩ := Option.bind_eq_some_iff.mp h
  have f_q12 := kQ.step h0 (kQ.fr (f_r_later σ (2 : Int32) x1 (x3 + ((100 : Int32) * x2)) σ jFr.rfl q12 hq) (by decide) (by decide) (by decide))
  obtain ⟨q13, hq, h⟩ := Option.bind_eq_some_iff.mp h
  have f_q13 := kQ.step f_q12 (kQ.fr (f_r_later q12 (1 : Int32) (0 : Int32) (0 : Int32) q12 jFr.rfl q13 hq) (by decide) (by decide) (by decide))
  have h9 := Option.some.inj h
  subst h9
  exact f_q13
theorem k_r_expression (σ0 : jx_S) (σ : jx_S) (h0 : kQ σ0 σ) (t : jx_S) (h : p_r_expression σ = some t) : kqV σ0 t := by
  unfold p_r_expression at h
  rcases Classical.em (((σ.1 106 48) + (1 : Int32)) ≤ (30 : Int32)) with hc | hc
  · rw [if_pos hc] at h
    obtain ⟨hi, h⟩ := jx_ite0_inv h
    rcases Classical.em (¬ ((σ.1 108) ((σ.1 106 40)).toNatClampNeg) = (5 : Int32)) with hc | hc
    · rw [if_pos hc] at h
      obtain ⟨hi, h⟩ := jx_ite0_inv h
      rcases Classical.em (¬ ((σ.1 108) ((σ.1 106 40)).toNatClampNeg) = (7 : Int32)) with hc | hc
      · rw [if_pos hc] at h
        obtain ⟨hi, h⟩ := jx_ite0_inv h
        rcases Classical.em (¬ ((σ.1 108) ((σ.1 106 40)).toNatClampNeg) = (10 : Int32)) with hc | hc
        · rw [if_pos hc] at h
          obtain ⟨q1, hq, h⟩ := Option.bind_eq_some_iff.mp h
          have f_q1 := kQ.step (kQ.i h0 (by decide)) (kQ.fr (f_r_later (jx_i σ 106 48 ((σ.1 106 48) + (1 : Int32))) (21 : Int32) (0 : Int32) (0 : Int32) (jx_i σ 106 48 ((σ.1 106 48) + (1 : Int32))) jFr.rfl q1 hq) (by decide) (by decide) (by decide))
          obtain ⟨q2, hq, h⟩ := Option.bind_eq_some_iff.mp h
          have f_q2 := kQ.step f_q1 (kQ.fr (f_r_later q1 (18 : Int32) (0 : Int32) (0 : Int32) q1 jFr.rfl q2 hq) (by decide) (by decide) (by decide))
          obtain ⟨q3, hq, h⟩ := Option.bind_eq_some_iff.mp h
          have f_q3 := kQ.step f_q2 (kQ.fr (f_r_later q2 (10 : Int32) (0 : Int32) (0 : Int32) q2 jFr.rfl q3 hq) (by decide) (by decide) (by decide))
          have h9 := Option.some.inj h
          subst h9
          exact f_q3
        · rw [if_neg hc] at h
          obtain ⟨q4, hq, h⟩ := Option.bind_eq_some_iff.mp h
          have f_q4 := kQ.step (kQ.i (kQ.i h0 (by decide)) (by decide)) (kQ.fr (f_r_later (jx_i (jx_i σ 106 48 ((σ.1 106 48) + (1 : Int32))) 106 40 ((σ.1 106 40) + (1 : Int32))) (7 : Int32) (σ.1 106 40) (0 : Int32) (jx_i (jx_i σ 106 48 ((σ.1 106 48) + (1 : Int32))) 106 40 ((σ.1 106 40) + (1 : Int32))) jFr.rfl q4 hq) (by decide) (by decide) (by decide))
          obtain ⟨q5, hq, h⟩ := Option.bind_eq_some_iff.mp h
          have f_q5 := kQ.step f_q4 (kQ.fr (f_r_later q4 (1 : Int32) (0 : Int32) (0 : Int32) q4 jFr.rfl q5 hq) (by decide) (by decide) (by decide))
          have h9 := Option.some.inj h
          subst h9
          exact f_q5
      · rw [if_neg hc] at h
        obtain ⟨q6, hq, h⟩ := Option.bind_eq_some_iff.mp h
        have f_q6 := kQ.step (kQ.i (kQ.i h0 (by decide)) (by decide)) (kQ.fr (f_r_later (jx_i (jx_i σ 106 48 ((σ.1 106 48) + (1 : Int32))) 106 40 ((σ.1 106 40) + (1 : Int32))) (4 : Int32) (σ.1 106 40) (0 : Int32) (jx_i (jx_i σ 106 48 ((σ.1 106 48) + (1 : Int32))) 106 40 ((σ.1 106 40) + (1 : Int32))) jFr.rfl q6 hq) (by decide) (by decide) (by decide))
        obtain ⟨q7, hq, h⟩ := Option.bind_eq_some_iff.mp h
        have f_q7 := kQ.step f_q6 (kQ.fr (f_r_later q6 (1 : Int32) (0 : Int32) (0 : Int32) q6 jFr.rfl q7 hq) (by decide) (by decide) (by decide))
        have h9 := Option.some.inj h
        subst h9
        exact f_q7
    · rw [if_neg hc] at h
      obtain ⟨q8, hq, h⟩ := Option.bind_eq_some_iff.mp h
      have f_q8 := kQ.step (kQ.i (kQ.i h0 (by decide)) (by decide)) (k_r_declare (jx_i (jx_i σ 106 48 ((σ.1 106 48) + (1 : Int32))) 106 40 ((σ.1 106 40) + (1 : Int32))) (0 : Int32) (jx_i (jx_i σ 106 48 ((σ.1 106 48) + (1 : Int32))) 106 40 ((σ.1 106 40) + (1 : Int32))) kQ.rfl q8 hq)
      obtain ⟨q9, hq, h⟩ := Option.bind_eq_some_iff.mp h
      have f_q9 := kQ.step f_q8 (k_r_expect q8.2 (18 : Int32) q8.2 kQ.rfl q9 hq)
      obtain ⟨q10, hq, h⟩ := Option.bind_eq_some_iff.mp h
      have f_q10 := kQ.step f_q9 (k_r_baseType q9 q9 kQ.rfl q10 hq)
      obtain ⟨q11, hq, h⟩ := Option.bind_eq_some_iff.mp h
      have f_q11 := kQ.step f_q10 (k_r_expect q10.2 (19 : Int32) q10.2 kQ.rfl q11 hq)
      rcases Classical.em ((q11.1 106 41) = 0) with hc | hc
      · rw [if_pos hc] at h
        exact k_r_expression_122 σ0 (σ.1 106 40) ((σ.1 106 40) + (1 : Int32)) q8.1 q11 f_q11 _ h
      · rw [if_neg hc] at h
        obtain ⟨hi, h⟩ := jx_ite0_inv h
        obtain ⟨hi, h⟩ := jx_ite0_inv h
        obtain ⟨hi, h⟩ := jx_ite0_inv h
        exact k_r_expression_122 σ0 (σ.1 106 40) ((σ.1 106 40) + (1 : Int32)) q8.1 (jx_i (jx_i q11 137 ((((30 : Int32) * (q11.1 106 38)) + q8.1)).toNatClampNeg q10.1) 130 ((q11.1 106 38)).toNatClampNeg (((q11.1 130) ((q11.1 106 38)).toNatClampNeg) + (1 : Int32))) (kQ.ia (kQ.ia f_q11 (by decide)) (by decide)) _ h
  · rw [if_neg hc] at h
    obtain ⟨q14, hq, h⟩ := Option.bind_eq_some_iff.mp h
    have f_q14 := kQ.step (kQ.i h0 (by decide)) (k_r_stop (jx_i σ 106 48 ((σ.1 106 48) + (1 : Int32))) (3 : Int32) (σ.1 106 40) (jx_i σ 106 48 ((σ.1 106 48) + (1 : Int32))) kQ.rfl q14 hq (by decide))
    have h9 := Option.some.inj h
    subst h9
    exact f_q14
theorem k_r_bar (σ0 : jx_S) (x1 : Int32) (σ : jx_S) (h0 : kQ σ0 σ) (t : jx_S) (h : p_r_bar x1 σ = some t) : kqV σ0 t := by
  unfold p_r_bar at h
  obtain ⟨q1, hq, h⟩ := Option.bind_eq_some_iff.mp h
  have f_q1 := kQ.step h0 (k_r_expect σ (22 : Int32) σ kQ.rfl q1 hq)
  obtain ⟨q2, hq, h⟩ := Option.bind_eq_some_iff.mp h
  have f_q2 := kQ.step f_q1 (k_r_declare q1 (0 : Int32) q1 kQ.rfl q2 hq)
  obtain ⟨q3, hq, h⟩ := Option.bind_eq_some_iff.mp h
  have f_q3 := kQ.step f_q2 (k_r_expect q2.2 (18 : Int32) q2.2 kQ.rfl q3 hq)
  obtain ⟨q4, hq, h⟩ := Option.bind_eq_some_iff.mp h
  have f_q4 := kQ.step f_q3 (k_r_declare q3 (1 : Int32) q3 kQ.rfl q4 hq)
  obtain ⟨q5, hq, h⟩ := Option.bind_eq_some_iff.mp h
  have f_q5 := kQ.step f_q4 (k_r_expect q4.2 (21 : Int32) q4.2 kQ.rfl q5 hq)
  obtain ⟨q6, hq, h⟩ := Option.bind_eq_some_iff.mp h
  have f_q6 := kQ.step f_q5 (kQ.fr (f_r_enter q5 q2.1 (q1.1 106 40) q5 jFr.rfl q6 hq) (by decide) (by decide) (by decide))
  obtain ⟨q7, hq, h⟩ := Option.bind_eq_some_iff.mp h
  have f_q7 := kQ.step f_q6 (kQ.fr (f_r_enter q6 q4.1 (q3.1 106 40) q6 jFr.rfl q7 hq) (by decide) (by decide) (by decide))
  obtain ⟨q8, hq, h⟩ := Option.bind_eq_some_iff.mp h
  have f_q8 := kQ.step f_q7 (kQ.fr (f_r_later q7 (9 : Int32) x1 q2.1 q7 jFr.rfl q8 hq) (by decide) (by decide) (by decide))
  obtain ⟨q9, hq, h⟩ := Option.bind_eq_some_iff.mp h
  have f_q9 := kQ.step f_q8 (kQ.fr (f_r_later q8 (1 : Int32) (0 : Int32) (0 : Int32) q8 jFr.rfl q9 hq) (by decide) (by decide) (by decide))
  have h9 := Option.some.inj h
  subst h9
  exact f_q9
theorem k_r_atom_92 (σ0 : jx_S) (x1 : Int32) (σ : jx_S) (h0 : kQ σ0 σ) (t : jx_S) (h : p_r_atom_92 x1 σ = some t) : kqV σ0 t := by
  unfold p_r_atom_92 at h
  obtain ⟨q1, hq, h⟩ := Option.bind_eq_some_iff.mp h
  have f_q1 := kQ.step h0 (kQ.fr (f_r_node σ x1 (σ.1 106 40) (-1 : Int32) (-1 : Int32) (-1 : Int32) σ jFr.rfl q1 hq) (by decide) (by decide) (by decide))
  obtain ⟨q2, hq, h⟩ := Option.bind_eq_some_iff.mp h
  have f_q2 := kQ.step f_q1 (kQ.fr (f_r_give q1.2 q1.1 q1.2 jFr.rfl q2 hq) (by decide) (by decide) (by decide))
  have h9 := Option.some.inj h
  subst h9
  exact (kQ.i f_q2 (by decide))
theorem k_r_atom (σ0 : jx_S) (σ : jx_S) (h0 : kQ σ0 σ) (t : jx_S) (h : p_r_atom σ = some t) : kqV σ0 t := by
  unfold p_r_atom at h
  obtain ⟨hi, h⟩ := jx_ite0_inv h
  rcases Classical.em (¬ ((σ.1 108) ((σ.1 106 40)).toNatClampNeg) = (16 : Int32)) with hc | hc
  · rw [if_pos hc] at h
    rcases Classical.em (¬ ((σ.1 108) ((σ.1 106 40)).toNatClampNeg) = (1 : Int32)) with hc | hc
    · rw [if_pos hc] at h
      rcases Classical.em (((σ.1 108) ((σ.1 106 40)).toNatClampNeg) = (2 : Int32)) with hc | hc
      · rw [if_pos hc] at h
        exact k_r_atom_92 σ0 ((σ.1 108) ((σ.1 106 40)).toNatClampNeg) σ h0 _ h
      · rw [if_neg hc] at h
        rcases Classical.em (((σ.1 108) ((σ.1 106 40)).toNatClampNeg) = (13 : Int32)) with hc | hc
        · rw [if_pos hc] at h
          exact k_r_atom_92 σ0 ((σ.1 108) ((σ.1 106 40)).toNatClampNeg) σ h0 _ h
        · rw [if_neg hc] at h
          rcases Classical.em (¬ ((σ.1 108) ((σ.1 106 40)).toNatClampNeg) = (15 : Int32)) with hc | hc
          · rw [if_pos hc] at h
            obtain ⟨q3, hq, h⟩ := Option.bind_eq_some_iff.mp h
            have f_q3 := kQ.step h0 (k_r_stop σ (2 : Int32) (σ.1 106 40) σ kQ.rfl q3 hq (by decide))
            have h9 := Option.some.inj h
            subst h9
            exact f_q3
          · rw [if_neg hc] at h
            exact k_r_atom_92 σ0 ((σ.1 108) ((σ.1 106 40)).toNatClampNeg) σ h0 _ h
    · rw [if_neg hc] at h
      obtain ⟨q4, hq, h⟩ := Option.bind_eq_some_iff.mp h
      have f_q4 := kQ.step h0 (kQ.fr (f_r_nameNode σ (σ.1 106 40) (0 : Int32) σ jFr.rfl q4 hq) (by decide) (by decide) (by decide))
      obtain ⟨q5, hq, h⟩ := Option.bind_eq_some_iff.mp h
      have f_q5 := kQ.step f_q4 (kQ.fr (f_r_give q4.2 q4.1 q4.2 jFr.rfl q5 hq) (by decide) (by decide) (by decide))
      have h9 := Option.some.inj h
      subst h9
      exact (kQ.i f_q5 (by decide))
  · rw [if_neg hc] at h
    obtain ⟨q6, hq, h⟩ := Option.bind_eq_some_iff.mp h
    have f_q6 := kQ.step (kQ.i h0 (by decide)) (kQ.fr (f_r_later (jx_i σ 106 40 ((σ.1 106 40) + (1 : Int32))) (17 : Int32) (0 : Int32) (0 : Int32) (jx_i σ 106 40 ((σ.1 106 40) + (1 : Int32))) jFr.rfl q6 hq) (by decide) (by decide) (by decide))
    obtain ⟨q7, hq, h⟩ := Option.bind_eq_some_iff.mp h
    have f_q7 := kQ.step f_q6 (kQ.fr (f_r_later q6 (1 : Int32) (0 : Int32) (0 : Int32) q6 jFr.rfl q7 hq) (by decide) (by decide) (by decide))
    have h9 := Option.some.inj h
    subst h9
    exact f_q7
theorem k_r_readMore_188 (σ0 : jx_S) (y0 : Int32) (σ : jx_S) (h0 : kQ σ0 σ) (t : jx_S) (h : p_r_readMore_188 y0 σ = some t) : kqV σ0 t := by
  unfold p_r_readMore_188 at h
  obtain ⟨q5, hq, h⟩ := Option.bind_eq_some_iff.mp h
  have f_q5 := kQ.step h0 (kQ.fr (f_r_later σ y0 (0 : Int32) (0 : Int32) σ jFr.rfl q5 hq) (by decide) (by decide) (by decide))
  have h9 := Option.some.inj h
  subst h9
  exact (kQ.i f_q5 (by decide))
theorem k_r_readMore_155 (σ0 : jx_S) (x1 : Int32) (x2 : Int32) (x4 : Int32) (σ : jx_S) (h0 : kQ σ0 σ) (t : jx_S) (h : p_r_readMore_155 x1 x2 x4 σ = some t) : kqV σ0 t := by
  unfold p_r_readMore_155 at h
  obtain ⟨q3, hq, h⟩ := Option.bind_eq_some_iff.mp h
  have f_q3 := kQ.step h0 (kQ.fr (f_r_later σ x1 (x2 + (1 : Int32)) (0 : Int32) σ jFr.rfl q3 hq) (by decide) (by decide) (by decide))
  obtain ⟨q4, hq, h⟩ := Option.bind_eq_some_iff.mp h
  have f_q4 := kQ.step f_q3 (kQ.fr (f_r_later q3 (19 : Int32) (q3.1 106 40) (0 : Int32) q3 jFr.rfl q4 hq) (by decide) (by decide) (by decide))
  rcases Classical.em (x4 = 0) with hc | hc
  · rw [if_pos hc] at h
    exact k_r_readMore_188 σ0 (14 : Int32) q4 f_q4 _ h
  · rw [if_neg hc] at h
    exact k_r_readMore_188 σ0 (12 : Int32) q4 f_q4 _ h
theorem k_r_readMore_140 (σ0 : jx_S) (x1 : Int32) (x2 : Int32) (x4 : Int32) (σ : jx_S) (h0 : kQ σ0 σ) (t : jx_S) (h : p_r_readMore_140 x1 x2 x4 σ = some t) : kqV σ0 t := by
  unfold p_r_readMore_140 at h
  rcases Classical.em (¬ x2 = (10 : Int32)) with hc | hc
  · rw [if_pos hc] at h
    exact k_r_readMore_155 σ0 x1 x2 x4 σ h0 _ h
  · rw [if_neg hc] at h
    obtain ⟨q6, hq, h⟩ := Option.bind_eq_some_iff.mp h
    have f_q6 := kQ.step h0 (k_r_stop σ (3 : Int32) (σ.1 106 40) σ kQ.rfl q6 hq (by decide))
    exact k_r_readMore_155 σ0 x1 x2 x4 q6 f_q6 _ h
theorem k_r_readMore_137 (σ0 : jx_S) (x1 : Int32) (x2 : Int32) (x4 : Int32) (y0 : Int32) (y1 : Int32) (σ : jx_S) (h0 : kQ σ0 σ) (t : jx_S) (h : p_r_readMore_137 x1 x2 x4 y0 y1 σ = some t) : kqV σ0 t := by
  unfold p_r_readMore_137 at h
  rcases Classical.em (¬ y1 = y0) with hc | hc
  · rw [if_pos hc] at h
    have h9 := Option.some.inj h
    subst h9
    exact h0
  · rw [if_neg hc] at h
    exact k_r_readMore_140 σ0 x1 x2 x4 σ h0 _ h
theorem k_r_readMore_113 (σ0 : jx_S) (x1 : Int32) (x2 : Int32) (x4 : Int32) (y0 : Int32) (y1 : Int32) (σ : jx_S) (h0 : kQ σ0 σ) (t : jx_S) (h : p_r_readMore_113 x1 x2 x4 y0 y1 σ = some t) : kqV σ0 t := by
  unfold p_r_readMore_113 at h
  rcases Classical.em (y1 = y0) with hc | hc
  · rw [if_pos hc] at h
    exact k_r_readMore_140 σ0 x1 x2 x4 σ h0 _ h
  · rw [if_neg hc] at h
    obtain ⟨hi, h⟩ := jx_ite0_inv h
    rcases Classical.em (x4 = 0) with hc | hc
    · rw [if_pos hc] at h
      exact k_r_readMore_137 σ0 x1 x2 x4 (26 : Int32) ((σ.1 108) ((σ.1 106 40)).toNatClampNeg) σ h0 _ h
    · rw [if_neg hc] at h
      exact k_r_readMore_137 σ0 x1 x2 x4 (24 : Int32) ((σ.1 108) ((σ.1 106 40)).toNatClampNeg) σ h0 _ h
theorem k_r_readMore_90 (σ0 : jx_S) (x1 : Int32) (x2 : Int32) (y0 : Int32) (σ : jx_S) (h0 : kQ σ0 σ) (t : jx_S) (h : p_r_readMore_90 x1 x2 y0 σ = some t) : kqV σ0 t := by
  unfold p_r_readMore_90 at h
  obtain ⟨hi, h⟩ := jx_ite0_inv h
  rcases Classical.em (y0 = 0) with hc | hc
  · rw [if_pos hc] at h
    exact k_r_readMore_113 σ0 x1 x2 y0 (25 : Int32) ((σ.1 108) ((σ.1 106 40)).toNatClampNeg) σ h0 _ h
  · rw [if_neg hc] at h
    exact k_r_readMore_113 σ0 x1 x2 y0 (23 : Int32) ((σ.1 108) ((σ.1 106 40)).toNatClampNeg) σ h0 _ h
theorem k_r_readMore_79 (σ0 : jx_S) (x1 : Int32) (x2 : Int32) (σ : jx_S) (h0 : kQ σ0 σ) (t : jx_S) (h : p_r_readMore_79 x1 x2 σ = some t) : kqV σ0 t := by
  unfold p_r_readMore_79 at h
  rcases Classical.em (¬ x1 = (11 : Int32)) with hc | hc
  · rw [if_pos hc] at h
    exact k_r_readMore_90 σ0 x1 x2 (0 : Int32) σ h0 _ h
  · rw [if_neg hc] at h
    exact k_r_readMore_90 σ0 x1 x2 (1 : Int32) σ h0 _ h
theorem k_r_readMore_371 (σ0 : jx_S) (x2 : Int32) (x3 : Int32) (σ : jx_S) (h0 : kQ σ0 σ) (t : jx_S) (h : p_r_readMore_371 x2 x3 σ = some t) : kqV σ0 t := by
  unfold p_r_readMore_371 at h
  obtain ⟨q14, hq, h⟩ := Option.bind_eq_some_iff.mp h
  have f_q14 := kQ.step h0 (kQ.fr (f_r_later σ (15 : Int32) x2 (x3 + (1 : Int32)) σ jFr.rfl q14 hq) (by decide) (by decide) (by decide))
  obtain ⟨q15, hq, h⟩ := Option.bind_eq_some_iff.mp h
  have f_q15 := kQ.step f_q14 (kQ.fr (f_r_later q14 (16 : Int32) (0 : Int32) (0 : Int32) q14 jFr.rfl q15 hq) (by decide) (by decide) (by decide))
  have h9 := Option.some.inj h
  subst h9
  exact f_q15
theorem k_r_readMore_449 (σ0 : jx_S) (σ : jx_S) (h0 : kQ σ0 σ) (t : jx_S) (h : p_r_readMore_449 σ = some t) : kqV σ0 t := by
  unfold p_r_readMore_449 at h
  obtain ⟨q20, hq, h⟩ := Option.bind_eq_some_iff.mp h
  have f_q20 := kQ.step h0 (kQ.fr (f_r_later σ (19 : Int32) (σ.1 106 40) (0 : Int32) σ jFr.rfl q20 hq) (by decide) (by decide) (by decide))
  obtain ⟨q21, hq, h⟩ := Option.bind_eq_some_iff.mp h
  have f_q21 := kQ.step f_q20 (kQ.fr (f_r_later q20 (10 : Int32) (0 : Int32) (0 : Int32) q20 jFr.rfl q21 hq) (by decide) (by decide) (by decide))
  have h9 := Option.some.inj h
  subst h9
  exact (kQ.i f_q21 (by decide))
theorem k_r_readMore (σ0 : jx_S) (x1 : Int32) (x2 : Int32) (x3 : Int32) (σ : jx_S) (h0 : kQ σ0 σ) (t : jx_S) (h : p_r_readMore x1 x2 x3 σ = some t) : kqV σ0 t := by
  unfold p_r_readMore at h
  rcases Classical.em (x1 = 10) with hc0 | hc0
  · rw [if_pos hc0] at h
    obtain ⟨q1, hq, h⟩ := Option.bind_eq_some_iff.mp h
    have f_q1 := kQ.step h0 (kQ.fr (f_r_later σ (11 : Int32) (0 : Int32) (0 : Int32) σ jFr.rfl q1 hq) (by decide) (by decide) (by decide))
    obtain ⟨q2, hq, h⟩ := Option.bind_eq_some_iff.mp h
    have f_q2 := kQ.step f_q1 (kQ.fr (f_r_later q1 (12 : Int32) (0 : Int32) (0 : Int32) q1 jFr.rfl q2 hq) (by decide) (by decide) (by decide))
    have h9 := Option.some.inj h
    subst h9
    exact f_q2
  · rw [if_neg hc0] at h
    rcases Classical.em (x1 = 11) with hc1 | hc1
    · rw [if_pos hc1] at h
      exact k_r_readMore_79 σ0 x1 x2 σ h0 _ h
    · rw [if_neg hc1] at h
      rcases Classical.em (x1 = 12) with hc2 | hc2
      · rw [if_pos hc2] at h
        obtain ⟨q7, hq, h⟩ := Option.bind_eq_some_iff.mp h
        have f_q7 := kQ.step h0 (kQ.fr (f_r_later σ (13 : Int32) (0 : Int32) (0 : Int32) σ jFr.rfl q7 hq) (by decide) (by decide) (by decide))
        obtain ⟨q8, hq, h⟩ := Option.bind_eq_some_iff.mp h
        have f_q8 := kQ.step f_q7 (kQ.fr (f_r_later q7 (14 : Int32) (0 : Int32) (0 : Int32) q7 jFr.rfl q8 hq) (by decide) (by decide) (by decide))
        have h9 := Option.some.inj h
        subst h9
        exact f_q8
      · rw [if_neg hc2] at h
        rcases Classical.em (x1 = 13) with hc3 | hc3
        · rw [if_pos hc3] at h
          exact k_r_readMore_79 σ0 x1 x2 σ h0 _ h
        · rw [if_neg hc3] at h
          rcases Classical.em (x1 = 14) with hc4 | hc4
          · rw [if_pos hc4] at h
            obtain ⟨hi, h⟩ := jx_ite0_inv h
            rcases Classical.em (¬ ((σ.1 108) ((σ.1 106 40)).toNatClampNeg) = (14 : Int32)) with hc | hc
            · rw [if_pos hc] at h
              obtain ⟨hi, h⟩ := jx_ite0_inv h
              rcases Classical.em (¬ ((σ.1 108) ((σ.1 106 40)).toNatClampNeg) = (1 : Int32)) with hc | hc
              · rw [if_pos hc] at h
                obtain ⟨q9, hq, h⟩ := Option.bind_eq_some_iff.mp h
                have f_q9 := kQ.step h0 (kQ.fr (f_r_later σ (16 : Int32) (0 : Int32) (0 : Int32) σ jFr.rfl q9 hq) (by decide) (by decide) (by decide))
                have h9 := Option.some.inj h
                subst h9
                exact f_q9
              · rw [if_neg hc] at h
                obtain ⟨q10, hq, h⟩ := Option.bind_eq_some_iff.mp h
                have f_q10 := kQ.step h0 (kQ.fr (f_r_later σ (15 : Int32) (σ.1 106 40) (0 : Int32) σ jFr.rfl q10 hq) (by decide) (by decide) (by decide))
                have h9 := Option.some.inj h
                subst h9
                exact (kQ.i f_q10 (by decide))
            · rw [if_neg hc] at h
              obtain ⟨q11, hq, h⟩ := Option.bind_eq_some_iff.mp h
              have f_q11 := kQ.step h0 (kQ.fr (f_r_later σ (20 : Int32) (σ.1 106 40) (0 : Int32) σ jFr.rfl q11 hq) (by decide) (by decide) (by decide))
              obtain ⟨q12, hq, h⟩ := Option.bind_eq_some_iff.mp h
              have f_q12 := kQ.step f_q11 (kQ.fr (f_r_later q11 (16 : Int32) (0 : Int32) (0 : Int32) q11 jFr.rfl q12 hq) (by decide) (by decide) (by decide))
              obtain ⟨q13, hq, h⟩ := Option.bind_eq_some_iff.mp h
              have f_q13 := kQ.step f_q12 (kQ.fr (f_r_later q12 (16 : Int32) (0 : Int32) (0 : Int32) q12 jFr.rfl q13 hq) (by decide) (by decide) (by decide))
              have h9 := Option.some.inj h
              subst h9
              exact (kQ.i f_q13 (by decide))
          · rw [if_neg hc4] at h
            rcases Classical.em (x1 = 15) with hc5 | hc5
            · rw [if_pos hc5] at h
              obtain ⟨hi, h⟩ := jx_ite0_inv h
              rcases Classical.em (((σ.1 108) ((σ.1 106 40)).toNatClampNeg) = (2 : Int32)) with hc | hc
              · rw [if_pos hc] at h
                exact k_r_readMore_371 σ0 x2 x3 σ h0 _ h
              · rw [if_neg hc] at h
                rcases Classical.em (((σ.1 108) ((σ.1 106 40)).toNatClampNeg) = (1 : Int32)) with hc | hc
                · rw [if_pos hc] at h
                  exact k_r_readMore_371 σ0 x2 x3 σ h0 _ h
                · rw [if_neg hc] at h
                  rcases Classical.em (((σ.1 108) ((σ.1 106 40)).toNatClampNeg) = (13 : Int32)) with hc | hc
                  · rw [if_pos hc] at h
                    exact k_r_readMore_371 σ0 x2 x3 σ h0 _ h
                  · rw [if_neg hc] at h
                    rcases Classical.em (((σ.1 108) ((σ.1 106 40)).toNatClampNeg) = (15 : Int32)) with hc | hc
                    · rw [if_pos hc] at h
                      exact k_r_readMore_371 σ0 x2 x3 σ h0 _ h
                    · rw [if_neg hc] at h
                      rcases Classical.em (¬ ((σ.1 108) ((σ.1 106 40)).toNatClampNeg) = (16 : Int32)) with hc | hc
                      · rw [if_pos hc] at h
                        obtain ⟨q16, hq, h⟩ := Option.bind_eq_some_iff.mp h
                        have f_q16 := kQ.step h0 (kQ.fr (f_r_nameNode σ x2 x3 σ jFr.rfl q16 hq) (by decide) (by decide) (by decide))
                        obtain ⟨q17, hq, h⟩ := Option.bind_eq_some_iff.mp h
                        have f_q17 := kQ.step f_q16 (kQ.fr (f_r_give q16.2 q16.1 q16.2 jFr.rfl q17 hq) (by decide) (by decide) (by decide))
                        have h9 := Option.some.inj h
                        subst h9
                        exact f_q17
                      · rw [if_neg hc] at h
                        exact k_r_readMore_371 σ0 x2 x3 σ h0 _ h
            · rw [if_neg hc5] at h
              rcases Classical.em (x1 = 16) with hc6 | hc6
              · rw [if_pos hc6] at h
                obtain ⟨q18, hq, h⟩ := Option.bind_eq_some_iff.mp h
                have f_q18 := kQ.step h0 (k_r_atom σ σ kQ.rfl q18 hq)
                have h9 := Option.some.inj h
                subst h9
                exact f_q18
              · rw [if_neg hc6] at h
                rcases Classical.em (x1 = 17) with hc7 | hc7
                · rw [if_pos hc7] at h
                  obtain ⟨q19, hq, h⟩ := Option.bind_eq_some_iff.mp h
                  have f_q19 := kQ.step h0 (k_r_expect σ (17 : Int32) σ kQ.rfl q19 hq)
                  have h9 := Option.some.inj h
                  subst h9
                  exact f_q19
                · rw [if_neg hc7] at h
                  rcases Classical.em (x1 = 18) with hc8 | hc8
                  · rw [if_pos hc8] at h
                    obtain ⟨hi, h⟩ := jx_ite0_inv h
                    rcases Classical.em (((σ.1 108) ((σ.1 106 40)).toNatClampNeg) = (19 : Int32)) with hc | hc
                    · rw [if_pos hc] at h
                      exact k_r_readMore_449 σ0 σ h0 _ h
                    · rw [if_neg hc] at h
                      obtain ⟨hi, h⟩ := jx_ite0_inv h
                      rcases Classical.em (¬ ((σ.1 108) ((σ.1 106 40)).toNatClampNeg) = (27 : Int32)) with hc | hc
                      · rw [if_pos hc] at h
                        have h9 := Option.some.inj h
                        subst h9
                        exact h0
                      · rw [if_neg hc] at h
                        exact k_r_readMore_449 σ0 σ h0 _ h
                  · rw [if_neg hc8] at h
                    rcases Classical.em (x1 = 19) with hc9 | hc9
                    · rw [if_pos hc9] at h
                      obtain ⟨q22, hq, h⟩ := Option.bind_eq_some_iff.mp h
                      have f_q22 := kQ.step h0 (kQ.fr (f_r_take σ σ jFr.rfl q22 hq) (by decide) (by decide) (by decide))
                      obtain ⟨q23, hq, h⟩ := Option.bind_eq_some_iff.mp h
                      have f_q23 := kQ.step f_q22 (kQ.fr (f_r_take q22.2 q22.2 jFr.rfl q23 hq) (by decide) (by decide) (by decide))
                      obtain ⟨hi, h⟩ := jx_ite0_inv h
                      obtain ⟨q24, hq, h⟩ := Option.bind_eq_some_iff.mp h
                      have f_q24 := kQ.step f_q23 (kQ.fr (f_r_node q23.2 ((q23.2.1 108) (x2).toNatClampNeg) x2 q23.1 q22.1 (-1 : Int32) q23.2 jFr.rfl q24 hq) (by decide) (by decide) (by decide))
                      obtain ⟨q25, hq, h⟩ := Option.bind_eq_some_iff.mp h
                      have f_q25 := kQ.step f_q24 (kQ.fr (f_r_give q24.2 q24.1 q24.2 jFr.rfl q25 hq) (by decide) (by decide) (by decide))
                      have h9 := Option.some.inj h
                      subst h9
                      exact f_q25
                    · rw [if_neg hc9] at h
                      rcases Classical.em (x1 = 20) with hc10 | hc10
                      · rw [if_pos hc10] at h
                        obtain ⟨q26, hq, h⟩ := Option.bind_eq_some_iff.mp h
                        have f_q26 := kQ.step h0 (kQ.fr (f_r_take σ σ jFr.rfl q26 hq) (by decide) (by decide) (by decide))
                        obtain ⟨q27, hq, h⟩ := Option.bind_eq_some_iff.mp h
                        have f_q27 := kQ.step f_q26 (kQ.fr (f_r_take q26.2 q26.2 jFr.rfl q27 hq) (by decide) (by decide) (by decide))
                        obtain ⟨q28, hq, h⟩ := Option.bind_eq_some_iff.mp h
                        have f_q28 := kQ.step f_q27 (kQ.fr (f_r_node q27.2 (14 : Int32) x2 q27.1 q26.1 (-1 : Int32) q27.2 jFr.rfl q28 hq) (by decide) (by decide) (by decide))
                        obtain ⟨q29, hq, h⟩ := Option.bind_eq_some_iff.mp h
                        have f_q29 := kQ.step f_q28 (kQ.fr (f_r_give q28.2 q28.1 q28.2 jFr.rfl q29 hq) (by decide) (by decide) (by decide))
                        have h9 := Option.some.inj h
                        subst h9
                        exact f_q29
                      · rw [if_neg hc10] at h
                        have h9 := Option.some.inj h
                        subst h9
                        exact (kQ.i h0 (by decide))
theorem k_r_readOne_195 (σ0 : jx_S) (x2 : Int32) (y0 : Int32) (σ : jx_S) (h0 : kQ σ0 σ) (t : jx_S) (h : p_r_readOne_195 x2 y0 σ = some t) : kqV σ0 t := by
  unfold p_r_readOne_195 at h
  obtain ⟨q11, hq, h⟩ := Option.bind_eq_some_iff.mp h
  have f_q11 := kQ.step h0 (kQ.fr (f_r_later σ y0 x2 (0 : Int32) σ jFr.rfl q11 hq) (by decide) (by decide) (by decide))
  obtain ⟨q12, hq, h⟩ := Option.bind_eq_some_iff.mp h
  have f_q12 := kQ.step f_q11 (kQ.fr (f_r_later q11 (1 : Int32) (0 : Int32) (0 : Int32) q11 jFr.rfl q12 hq) (by decide) (by decide) (by decide))
  have h9 := Option.some.inj h
  subst h9
  exact f_q12
theorem k_r_readOne_180 (σ0 : jx_S) (x1 : Int32) (x2 : Int32) (y0 : Int32) (σ : jx_S) (h0 : kQ σ0 σ) (t : jx_S) (h : p_r_readOne_180 x1 x2 y0 σ = some t) : kqV σ0 t := by
  unfold p_r_readOne_180 at h
  obtain ⟨q10, hq, h⟩ := Option.bind_eq_some_iff.mp h
  have f_q10 := kQ.step h0 (k_r_expect σ y0 σ kQ.rfl q10 hq)
  rcases Classical.em (¬ x1 = (4 : Int32)) with hc | hc
  · rw [if_pos hc] at h
    exact k_r_readOne_195 σ0 x2 (6 : Int32) q10 f_q10 _ h
  · rw [if_neg hc] at h
    exact k_r_readOne_195 σ0 x2 (5 : Int32) q10 f_q10 _ h
theorem k_r_readOne_167 (σ0 : jx_S) (x1 : Int32) (x2 : Int32) (σ : jx_S) (h0 : kQ σ0 σ) (t : jx_S) (h : p_r_readOne_167 x1 x2 σ = some t) : kqV σ0 t := by
  unfold p_r_readOne_167 at h
  rcases Classical.em (¬ x1 = (4 : Int32)) with hc | hc
  · rw [if_pos hc] at h
    exact k_r_readOne_180 σ0 x1 x2 (9 : Int32) σ h0 _ h
  · rw [if_neg hc] at h
    exact k_r_readOne_180 σ0 x1 x2 (8 : Int32) σ h0 _ h
theorem k_r_readOne (σ0 : jx_S) (x1 : Int32) (x2 : Int32) (x3 : Int32) (σ : jx_S) (h0 : kQ σ0 σ) (t : jx_S) (h : p_r_readOne x1 x2 x3 σ = some t) : kqV σ0 t := by
  unfold p_r_readOne at h
  rcases Classical.em (x1 = 1) with hc0 | hc0
  · rw [if_pos hc0] at h
    obtain ⟨q1, hq, h⟩ := Option.bind_eq_some_iff.mp h
    have f_q1 := kQ.step h0 (k_r_expression σ σ kQ.rfl q1 hq)
    have h9 := Option.some.inj h
    subst h9
    exact f_q1
  · rw [if_neg hc0] at h
    rcases Classical.em (x1 = 2) with hc1 | hc1
    · rw [if_pos hc1] at h
      obtain ⟨q2, hq, h⟩ := Option.bind_eq_some_iff.mp h
      have f_q2 := kQ.step h0 (k_r_expect σ (6 : Int32) σ kQ.rfl q2 hq)
      obtain ⟨q3, hq, h⟩ := Option.bind_eq_some_iff.mp h
      have f_q3 := kQ.step f_q2 (kQ.fr (f_r_enter q2 (x3 - x3 / (100 : Int32) * (100 : Int32)) (x3 / (100 : Int32)) q2 jFr.rfl q3 hq) (by decide) (by decide) (by decide))
      obtain ⟨q4, hq, h⟩ := Option.bind_eq_some_iff.mp h
      have f_q4 := kQ.step f_q3 (kQ.fr (f_r_later q3 (3 : Int32) x2 (x3 - x3 / (100 : Int32) * (100 : Int32)) q3 jFr.rfl q4 hq) (by decide) (by decide) (by decide))
      obtain ⟨q5, hq, h⟩ := Option.bind_eq_some_iff.mp h
      have f_q5 := kQ.step f_q4 (kQ.fr (f_r_later q4 (1 : Int32) (0 : Int32) (0 : Int32) q4 jFr.rfl q5 hq) (by decide) (by decide) (by decide))
      have h9 := Option.some.inj h
      subst h9
      exact f_q5
    · rw [if_neg hc1] at h
      rcases Classical.em (x1 = 3) with hc2 | hc2
      · rw [if_pos hc2] at h
        obtain ⟨q6, hq, h⟩ := Option.bind_eq_some_iff.mp h
        have f_q6 := kQ.step (kQ.i (kQ.i h0 (by decide)) (by decide)) (kQ.fr (f_r_take (jx_i (jx_i σ 106 52 ((σ.1 106 52) - (1 : Int32))) 106 48 ((σ.1 106 48) - (1 : Int32))) (jx_i (jx_i σ 106 52 ((σ.1 106 52) - (1 : Int32))) 106 48 ((σ.1 106 48) - (1 : Int32))) jFr.rfl q6 hq) (by decide) (by decide) (by decide))
        obtain ⟨q7, hq, h⟩ := Option.bind_eq_some_iff.mp h
        have f_q7 := kQ.step f_q6 (kQ.fr (f_r_take q6.2 q6.2 jFr.rfl q7 hq) (by decide) (by decide) (by decide))
        obtain ⟨q8, hq, h⟩ := Option.bind_eq_some_iff.mp h
        have f_q8 := kQ.step f_q7 (kQ.fr (f_r_node q7.2 (5 : Int32) x2 q7.1 q6.1 (-1 : Int32) q7.2 jFr.rfl q8 hq) (by decide) (by decide) (by decide))
        obtain ⟨hi, h⟩ := jx_ite0_inv h
        obtain ⟨hi, h⟩ := jx_ite0_inv h
        obtain ⟨q9, hq, h⟩ := Option.bind_eq_some_iff.mp h
        have f_q9 := kQ.step (kQ.ia (kQ.ia f_q8 (by decide)) (by decide)) (kQ.fr (f_r_give (jx_i (jx_i q8.2 117 (q8.1).toNatClampNeg x3) 122 (q7.1).toNatClampNeg x3) q8.1 (jx_i (jx_i q8.2 117 (q8.1).toNatClampNeg x3) 122 (q7.1).toNatClampNeg x3) jFr.rfl q9 hq) (by decide) (by decide) (by decide))
        have h9 := Option.some.inj h
        subst h9
        exact f_q9
      · rw [if_neg hc2] at h
        rcases Classical.em (x1 = 4) with hc3 | hc3
        · rw [if_pos hc3] at h
          exact k_r_readOne_167 σ0 x1 x2 σ h0 _ h
        · rw [if_neg hc3] at h
          rcases Classical.em (x1 = 5) with hc4 | hc4
          · rw [if_pos hc4] at h
            exact k_r_readOne_167 σ0 x1 x2 σ h0 _ h
          · rw [if_neg hc4] at h
            rcases Classical.em (x1 = 6) with hc5 | hc5
            · rw [if_pos hc5] at h
              obtain ⟨q13, hq, h⟩ := Option.bind_eq_some_iff.mp h
              have f_q13 := kQ.step (kQ.i h0 (by decide)) (kQ.fr (f_r_take (jx_i σ 106 48 ((σ.1 106 48) - (1 : Int32))) (jx_i σ 106 48 ((σ.1 106 48) - (1 : Int32))) jFr.rfl q13 hq) (by decide) (by decide) (by decide))
              obtain ⟨q14, hq, h⟩ := Option.bind_eq_some_iff.mp h
              have f_q14 := kQ.step f_q13 (kQ.fr (f_r_take q13.2 q13.2 jFr.rfl q14 hq) (by decide) (by decide) (by decide))
              obtain ⟨q15, hq, h⟩ := Option.bind_eq_some_iff.mp h
              have f_q15 := kQ.step f_q14 (kQ.fr (f_r_take q14.2 q14.2 jFr.rfl q15 hq) (by decide) (by decide) (by decide))
              obtain ⟨q16, hq, h⟩ := Option.bind_eq_some_iff.mp h
              have f_q16 := kQ.step f_q15 (kQ.fr (f_r_node q15.2 (7 : Int32) x2 q15.1 q14.1 q13.1 q15.2 jFr.rfl q16 hq) (by decide) (by decide) (by decide))
              obtain ⟨q17, hq, h⟩ := Option.bind_eq_some_iff.mp h
              have f_q17 := kQ.step f_q16 (kQ.fr (f_r_give q16.2 q16.1 q16.2 jFr.rfl q17 hq) (by decide) (by decide) (by decide))
              have h9 := Option.some.inj h
              subst h9
              exact f_q17
            · rw [if_neg hc5] at h
              rcases Classical.em (x1 = 7) with hc6 | hc6
              · rw [if_pos hc6] at h
                obtain ⟨q18, hq, h⟩ := Option.bind_eq_some_iff.mp h
                have f_q18 := kQ.step h0 (k_r_expect σ (11 : Int32) σ kQ.rfl q18 hq)
                obtain ⟨q19, hq, h⟩ := Option.bind_eq_some_iff.mp h
                have f_q19 := kQ.step f_q18 (k_r_expect q18 (12 : Int32) q18 kQ.rfl q19 hq)
                obtain ⟨q20, hq, h⟩ := Option.bind_eq_some_iff.mp h
                have f_q20 := kQ.step f_q19 (k_r_expect q19 (21 : Int32) q19 kQ.rfl q20 hq)
                obtain ⟨q21, hq, h⟩ := Option.bind_eq_some_iff.mp h
                have f_q21 := kQ.step f_q20 (kQ.fr (f_r_later q20 (8 : Int32) x2 (0 : Int32) q20 jFr.rfl q21 hq) (by decide) (by decide) (by decide))
                obtain ⟨q22, hq, h⟩ := Option.bind_eq_some_iff.mp h
                have f_q22 := kQ.step f_q21 (kQ.fr (f_r_later q21 (1 : Int32) (0 : Int32) (0 : Int32) q21 jFr.rfl q22 hq) (by decide) (by decide) (by decide))
                have h9 := Option.some.inj h
                subst h9
                exact f_q22
              · rw [if_neg hc6] at h
                rcases Classical.em (x1 = 8) with hc7 | hc7
                · rw [if_pos hc7] at h
                  obtain ⟨q23, hq, h⟩ := Option.bind_eq_some_iff.mp h
                  have f_q23 := kQ.step h0 (k_r_bar σ x2 σ kQ.rfl q23 hq)
                  have h9 := Option.some.inj h
                  subst h9
                  exact f_q23
                · rw [if_neg hc7] at h
                  rcases Classical.em (x1 = 9) with hc8 | hc8
                  · rw [if_pos hc8] at h
                    obtain ⟨q24, hq, h⟩ := Option.bind_eq_some_iff.mp h
                    have f_q24 := kQ.step (kQ.i (kQ.i h0 (by decide)) (by decide)) (kQ.fr (f_r_take (jx_i (jx_i σ 106 52 ((σ.1 106 52) - (2 : Int32))) 106 48 ((σ.1 106 48) - (1 : Int32))) (jx_i (jx_i σ 106 52 ((σ.1 106 52) - (2 : Int32))) 106 48 ((σ.1 106 48) - (1 : Int32))) jFr.rfl q24 hq) (by decide) (by decide) (by decide))
                    obtain ⟨q25, hq, h⟩ := Option.bind_eq_some_iff.mp h
                    have f_q25 := kQ.step f_q24 (kQ.fr (f_r_take q24.2 q24.2 jFr.rfl q25 hq) (by decide) (by decide) (by decide))
                    obtain ⟨q26, hq, h⟩ := Option.bind_eq_some_iff.mp h
                    have f_q26 := kQ.step f_q25 (kQ.fr (f_r_take q25.2 q25.2 jFr.rfl q26 hq) (by decide) (by decide) (by decide))
                    obtain ⟨q27, hq, h⟩ := Option.bind_eq_some_iff.mp h
                    have f_q27 := kQ.step f_q26 (kQ.fr (f_r_node q26.2 (10 : Int32) x2 q26.1 q25.1 q24.1 q26.2 jFr.rfl q27 hq) (by decide) (by decide) (by decide))
                    obtain ⟨hi, h⟩ := jx_ite0_inv h
                    obtain ⟨hi, h⟩ := jx_ite0_inv h
                    obtain ⟨q28, hq, h⟩ := Option.bind_eq_some_iff.mp h
                    have f_q28 := kQ.step (kQ.ia (kQ.ia f_q27 (by decide)) (by decide)) (kQ.fr (f_r_give (jx_i (jx_i q27.2 117 (q27.1).toNatClampNeg x3) 118 (q27.1).toNatClampNeg (x3 + (1 : Int32))) q27.1 (jx_i (jx_i q27.2 117 (q27.1).toNatClampNeg x3) 118 (q27.1).toNatClampNeg (x3 + (1 : Int32))) jFr.rfl q28 hq) (by decide) (by decide) (by decide))
                    have h9 := Option.some.inj h
                    subst h9
                    exact f_q28
                  · rw [if_neg hc8] at h
                    obtain ⟨q29, hq, h⟩ := Option.bind_eq_some_iff.mp h
                    have f_q29 := kQ.step h0 (k_r_readMore σ x1 x2 x3 σ kQ.rfl q29 hq)
                    have h9 := Option.some.inj h
                    subst h9
                    exact f_q29
theorem k_r_parameter0_56 (σ0 : jx_S) (x1 : Int32) (x2 : Int32) (σ : jx_S) (h0 : kQ σ0 σ) (t : jx_S) (h : p_r_parameter0_56 x1 x2 σ = some t) : kqV σ0 t := by
  unfold p_r_parameter0_56 at h
  obtain ⟨q2, hq, h⟩ := Option.bind_eq_some_iff.mp h
  have f_q2 := kQ.step h0 (k_r_declare σ (0 : Int32) σ kQ.rfl q2 hq)
  obtain ⟨q3, hq, h⟩ := Option.bind_eq_some_iff.mp h
  have f_q3 := kQ.step f_q2 (k_r_expect q2.2 (18 : Int32) q2.2 kQ.rfl q3 hq)
  obtain ⟨q4, hq, h⟩ := Option.bind_eq_some_iff.mp h
  have f_q4 := kQ.step f_q3 (k_r_typeText q3 q3 kQ.rfl q4 hq)
  obtain ⟨q5, hq, h⟩ := Option.bind_eq_some_iff.mp h
  have f_q5 := kQ.step f_q4 (k_r_expect q4.2 (17 : Int32) q4.2 kQ.rfl q5 hq)
  rcases Classical.em ((q5.1 106 41) = 0) with hc | hc
  · rw [if_pos hc] at h
    have h9 := Option.some.inj h
    subst h9
    exact f_q5
  · rw [if_neg hc] at h
    obtain ⟨hi, h⟩ := jx_ite0_inv h
    obtain ⟨hi, h⟩ := jx_ite0_inv h
    obtain ⟨hi, h⟩ := jx_ite0_inv h
    obtain ⟨hi, h⟩ := jx_ite0_inv h
    obtain ⟨hi, h⟩ := jx_ite0_inv h
    obtain ⟨q6, hq, h⟩ := Option.bind_eq_some_iff.mp h
    have f_q6 := kQ.step (kQ.ia (kQ.ia (kQ.ia f_q5 (by decide)) (by decide)) (by decide)) (kQ.fr (f_r_enter (jx_i (jx_i (jx_i q5 134 ((((8 : Int32) * x1) + ((q5.1 127) (x1).toNatClampNeg))).toNatClampNeg x2) 135 ((((8 : Int32) * x1) + ((q5.1 127) (x1).toNatClampNeg))).toNatClampNeg q4.1) 137 ((((30 : Int32) * x1) + q2.1)).toNatClampNeg q4.1) q2.1 x2 (jx_i (jx_i (jx_i q5 134 ((((8 : Int32) * x1) + ((q5.1 127) (x1).toNatClampNeg))).toNatClampNeg x2) 135 ((((8 : Int32) * x1) + ((q5.1 127) (x1).toNatClampNeg))).toNatClampNeg q4.1) 137 ((((30 : Int32) * x1) + q2.1)).toNatClampNeg q4.1) jFr.rfl q6 hq) (by decide) (by decide) (by decide))
    obtain ⟨hi, h⟩ := jx_ite0_inv h
    obtain ⟨hi, h⟩ := jx_ite0_inv h
    have h9 := Option.some.inj h
    subst h9
    exact (kQ.ia f_q6 (by decide))
theorem k_r_parameter0 (σ0 : jx_S) (σ : jx_S) (h0 : kQ σ0 σ) (t : jx_S) (h : p_r_parameter0 σ = some t) : kqV σ0 t := by
  unfold p_r_parameter0 at h
  obtain ⟨q1, hq, h⟩ := Option.bind_eq_some_iff.mp h
  have f_q1 := kQ.step h0 (k_r_expect σ (16 : Int32) σ kQ.rfl q1 hq)
  rcases Classical.em ((q1.1 106 41) = 0) with hc | hc
  · rw [if_pos hc] at h
    exact k_r_parameter0_56 σ0 (σ.1 106 38) (q1.1 106 40) q1 f_q1 _ h
  · rw [if_neg hc] at h
    obtain ⟨hi, h⟩ := jx_ite0_inv h
    rcases Classical.em (¬ ((q1.1 108) ((q1.1 106 40)).toNatClampNeg) = (1 : Int32)) with hc | hc
    · rw [if_pos hc] at h
      exact k_r_parameter0_56 σ0 (σ.1 106 38) (q1.1 106 40) q1 f_q1 _ h
    · rw [if_neg hc] at h
      obtain ⟨hi, h⟩ := jx_ite0_inv h
      rcases Classical.em (¬ ((q1.1 127) ((σ.1 106 38)).toNatClampNeg) = (8 : Int32)) with hc | hc
      · rw [if_pos hc] at h
        exact k_r_parameter0_56 σ0 (σ.1 106 38) (q1.1 106 40) q1 f_q1 _ h
      · rw [if_neg hc] at h
        obtain ⟨q7, hq, h⟩ := Option.bind_eq_some_iff.mp h
        have f_q7 := kQ.step f_q1 (k_r_stop q1 (4 : Int32) (q1.1 106 40) q1 kQ.rfl q7 hq (by decide))
        exact k_r_parameter0_56 σ0 (σ.1 106 38) (q1.1 106 40) q7 f_q7 _ h
def kq_r_function0_103 (σ0 : jx_S) (t : ((Int32 × jx_S) ⊕ jx_S)) : Prop := match t with
  | .inl s => kQ σ0 (s.2)
  | .inr t => kqV σ0 t
def kq_r_function0_170 (σ0 : jx_S) (t : ((Int32 × jx_S) ⊕ jx_S)) : Prop := match t with
  | .inl s => kQ σ0 (s.2)
  | .inr t => kqV σ0 t
theorem k_r_function0_245 (σ0 : jx_S) (x1 : Int32) (σ : jx_S) (h0 : kQ σ0 σ) (t : jx_S) (h : p_r_function0_245 x1 σ = some t) : kqV σ0 t := by
  unfold p_r_function0_245 at h
  obtain ⟨q5, hq, h⟩ := Option.bind_eq_some_iff.mp h
  have f_q5 := kQ.step h0 (k_r_expect σ (20 : Int32) σ kQ.rfl q5 hq)
  obtain ⟨hi, h⟩ := jx_ite0_inv h
  rcases Classical.em ((q5.1 106 41) = 0) with hc | hc
  · rw [if_pos hc] at h
    have h9 := Option.some.inj h
    subst h9
    exact (kQ.i (kQ.ia f_q5 (by decide)) (by decide))
  · rw [if_neg hc] at h
    have h9 := Option.some.inj h
    subst h9
    exact (kQ.i (kQ.ia f_q5 (by decide)) (by decide))
theorem k_r_function0_228 (σ0 : jx_S) (x1 : Int32) (σ : jx_S) (h0 : kQ σ0 σ) (t : jx_S) (h : p_r_function0_228 x1 σ = some t) : kqV σ0 t := by
  unfold p_r_function0_228 at h
  rcases Classical.em ((σ.1 106 41) = 0) with hc | hc
  · rw [if_pos hc] at h
    exact k_r_function0_245 σ0 x1 σ h0 _ h
  · rw [if_neg hc] at h
    obtain ⟨q6, hq, h⟩ := Option.bind_eq_some_iff.mp h
    have f_q6 := kQ.step h0 (kQ.fr (f_r_take σ σ jFr.rfl q6 hq) (by decide) (by decide) (by decide))
    obtain ⟨hi, h⟩ := jx_ite0_inv h
    exact k_r_function0_245 σ0 x1 (jx_i q6.2 131 (x1).toNatClampNeg q6.1) (kQ.ia f_q6 (by decide)) _ h
theorem k_r_function0_170_s (σ0 : jx_S) (x1 : Int32) (σ : jx_S) (h0 : kQ σ0 σ) (t : ((Int32 × jx_S) ⊕ jx_S)) (h : p_r_function0_170_s x1 σ = some t) : kq_r_function0_170 σ0 t := by
  unfold p_r_function0_170_s at h
  rcases Classical.em ((σ.1 106 41) = 0) with hc | hc
  · rw [if_pos hc] at h
    obtain ⟨t9_7, h9_7, h8_7⟩ := Option.map_eq_some_iff.mp h
    clear h
    subst h8_7
    have h := h9_7
    clear h9_7
    exact k_r_function0_228 σ0 x1 σ h0 _ h
  · rw [if_neg hc] at h
    rcases Classical.em ((σ.1 106 45) ≤ 0) with hc | hc
    · rw [if_pos hc] at h
      obtain ⟨t9_8, h9_8, h8_8⟩ := Option.map_eq_some_iff.mp h
      clear h
      subst h8_8
      have h := h9_8
      clear h9_8
      exact k_r_function0_228 σ0 x1 σ h0 _ h
    · rw [if_neg hc] at h
      obtain ⟨hi, h⟩ := jx_ite0_inv h
      obtain ⟨hi, h⟩ := jx_ite0_inv h
      obtain ⟨hi, h⟩ := jx_ite0_inv h
      obtain ⟨q9, hq, h⟩ := Option.bind_eq_some_iff.mp h
      have f_q9 := kQ.step (kQ.i h0 (by decide)) (k_r_readOne (jx_i σ 106 45 ((σ.1 106 45) - (1 : Int32))) ((σ.1 138) (((σ.1 106 45) - (1 : Int32))).toNatClampNeg) ((σ.1 139) (((σ.1 106 45) - (1 : Int32))).toNatClampNeg) ((σ.1 140) (((σ.1 106 45) - (1 : Int32))).toNatClampNeg) (jx_i σ 106 45 ((σ.1 106 45) - (1 : Int32))) kQ.rfl q9 hq)
      have h9 := Option.some.inj h
      subst h9
      exact f_q9
theorem k_r_function0_170 (σ0 : jx_S) (x1 : Int32) (σ : jx_S) (h0 : kQ σ0 σ) (t : jx_S) (h : p_r_function0_170 x1 σ = some t) : kqV σ0 t := by
  refine jx_loop_ok (E := fun s t => kQ σ0 (s.2) → kqV σ0 t) (fun s t hs => ?_) _ _ _ h h0
  cases t with
  | inl s1 => exact fun b hb hf => hb (k_r_function0_170_s σ0 (s.1) (s.2) hf _ hs)
  | inr b => exact fun hf => k_r_function0_170_s σ0 (s.1) (s.2) hf _ hs
theorem k_r_function0_131 (σ0 : jx_S) (x1 : Int32) (σ : jx_S) (h0 : kQ σ0 σ) (t : jx_S) (h : p_r_function0_131 x1 σ = some t) : kqV σ0 t := by
  unfold p_r_function0_131 at h
  obtain ⟨q1, hq, h⟩ := Option.bind_eq_some_iff.mp h
  have f_q1 := kQ.step h0 (k_r_expect σ (18 : Int32) σ kQ.rfl q1 hq)
  obtain ⟨q2, hq, h⟩ := Option.bind_eq_some_iff.mp h
  have f_q2 := kQ.step f_q1 (k_r_baseType q1 q1 kQ.rfl q2 hq)
  obtain ⟨hi, h⟩ := jx_ite0_inv h
  obtain ⟨q3, hq, h⟩ := Option.bind_eq_some_iff.mp h
  have f_q3 := kQ.step (kQ.ia f_q2 (by decide)) (k_r_expect (jx_i q2.2 128 (x1).toNatClampNeg q2.1) (19 : Int32) (jx_i q2.2 128 (x1).toNatClampNeg q2.1) kQ.rfl q3 hq)
  obtain ⟨hi, h⟩ := jx_ite0_inv h
  obtain ⟨q4, hq, h⟩ := Option.bind_eq_some_iff.mp h
  have f_q4 := kQ.step (kQ.ia f_q3 (by decide)) (kQ.fr (f_r_later (jx_i q3 132 (x1).toNatClampNeg (q3.1 106 25)) (1 : Int32) (0 : Int32) (0 : Int32) (jx_i q3 132 (x1).toNatClampNeg (q3.1 106 25)) jFr.rfl q4 hq) (by decide) (by decide) (by decide))
  exact k_r_function0_170 σ0 x1 q4 f_q4 _ h
theorem k_r_function0_103_s (σ0 : jx_S) (x1 : Int32) (σ : jx_S) (h0 : kQ σ0 σ) (t : ((Int32 × jx_S) ⊕ jx_S)) (h : p_r_function0_103_s x1 σ = some t) : kq_r_function0_103 σ0 t := by
  unfold p_r_function0_103_s at h
  rcases Classical.em ((σ.1 106 41) = 0) with hc | hc
  · rw [if_pos hc] at h
    obtain ⟨t9_10, h9_10, h8_10⟩ := Option.map_eq_some_iff.mp h
    clear h
    subst h8_10
    have h := h9_10
    clear h9_10
    exact k_r_function0_131 σ0 x1 σ h0 _ h
  · rw [if_neg hc] at h
    obtain ⟨hi, h⟩ := jx_ite0_inv h
    rcases Classical.em (¬ ((σ.1 108) ((σ.1 106 40)).toNatClampNeg) = (16 : Int32)) with hc | hc
    · rw [if_pos hc] at h
      obtain ⟨t9_11, h9_11, h8_11⟩ := Option.map_eq_some_iff.mp h
      clear h
      subst h8_11
      have h := h9_11
      clear h9_11
      exact k_r_function0_131 σ0 x1 σ h0 _ h
    · rw [if_neg hc] at h
      obtain ⟨q12, hq, h⟩ := Option.bind_eq_some_iff.mp h
      have f_q12 := kQ.step h0 (k_r_parameter0 σ σ kQ.rfl q12 hq)
      have h9 := Option.some.inj h
      subst h9
      exact f_q12
theorem k_r_function0_103 (σ0 : jx_S) (x1 : Int32) (σ : jx_S) (h0 : kQ σ0 σ) (t : jx_S) (h : p_r_function0_103 x1 σ = some t) : kqV σ0 t := by
  refine jx_loop_ok (E := fun s t => kQ σ0 (s.2) → kqV σ0 t) (fun s t hs => ?_) _ _ _ h h0
  cases t with
  | inl s1 => exact fun b hb hf => hb (k_r_function0_103_s σ0 (s.1) (s.2) hf _ hs)
  | inr b => exact fun hf => k_r_function0_103_s σ0 (s.1) (s.2) hf _ hs
theorem k_r_function0 (σ0 : jx_S) (σ : jx_S) (h0 : kQ σ0 σ) (t : jx_S) (h : p_r_function0 σ = some t) : kqV σ0 t := by
  unfold p_r_function0 at h
  obtain ⟨hi, h⟩ := jx_ite0_inv h
  rcases Classical.em (((σ.1 108) ((σ.1 106 40)).toNatClampNeg) = (1 : Int32)) with hc | hc
  · rw [if_pos hc] at h
    rcases Classical.em (¬ (σ.1 106 38) = (40 : Int32)) with hc | hc
    · rw [if_pos hc] at h
      obtain ⟨hi, h⟩ := jx_ite0_inv h
      obtain ⟨hi, h⟩ := jx_ite0_inv h
      obtain ⟨hi, h⟩ := jx_ite0_inv h
      exact k_r_function0_103 σ0 (σ.1 106 38) (jx_i (jx_i (jx_i (jx_i (jx_i (jx_i (jx_i (jx_i (jx_i σ 126 ((σ.1 106 38)).toNatClampNeg (σ.1 106 40)) 127 ((σ.1 106 38)).toNatClampNeg (0 : Int32)) 130 ((σ.1 106 38)).toNatClampNeg (0 : Int32)) 106 49 (0 : Int32)) 106 52 (0 : Int32)) 106 48 (0 : Int32)) 106 45 (0 : Int32)) 106 47 (0 : Int32)) 106 40 ((σ.1 106 40) + (1 : Int32))) (kQ.i (kQ.i (kQ.i (kQ.i (kQ.i (kQ.i (kQ.ia (kQ.ia (kQ.ia h0 (by decide)) (by decide)) (by decide)) (by decide)) (by decide)) (by decide)) (by decide)) (by decide)) (by decide)) _ h
    · rw [if_neg hc] at h
      obtain ⟨q13, hq, h⟩ := Option.bind_eq_some_iff.mp h
      have f_q13 := kQ.step h0 (k_r_stop σ (4 : Int32) (σ.1 106 40) σ kQ.rfl q13 hq (by decide))
      have h9 := Option.some.inj h
      subst h9
      exact f_q13
  · rw [if_neg hc] at h
    obtain ⟨q14, hq, h⟩ := Option.bind_eq_some_iff.mp h
    have f_q14 := kQ.step h0 (k_r_stop σ (2 : Int32) (σ.1 106 40) σ kQ.rfl q14 hq (by decide))
    have h9 := Option.some.inj h
    subst h9
    exact f_q14
def kq_r_readAll_20 (σ0 : jx_S) (t : ((jx_S) ⊕ (Int32 × jx_S))) : Prop := match t with
  | .inl s => kQ σ0 (s)
  | .inr t => kqI σ0 t
theorem k_r_readAll_20_s (σ0 : jx_S) (σ : jx_S) (h0 : kQ σ0 σ) (t : ((jx_S) ⊕ (Int32 × jx_S))) (h : p_r_readAll_20_s σ = some t) : kq_r_readAll_20 σ0 t := by
  unfold p_r_readAll_20_s at h
  rcases Classical.em ((σ.1 106 41) = 0) with hc | hc
  · rw [if_pos hc] at h
    obtain ⟨t9_1, h9_1, h8_1⟩ := Option.map_eq_some_iff.mp h
    clear h
    subst h8_1
    have h := h9_1
    clear h9_1
    obtain ⟨hb, h⟩ := jx_ite_inv h
    have h9 := Option.some.inj h
    subst h9
    exact h0
  · rw [if_neg hc] at h
    obtain ⟨hi, h⟩ := jx_ite0_inv h
    rcases Classical.em (((σ.1 108) ((σ.1 106 40)).toNatClampNeg) = (28 : Int32)) with hc | hc
    · rw [if_pos hc] at h
      obtain ⟨t9_2, h9_2, h8_2⟩ := Option.map_eq_some_iff.mp h
      clear h
      subst h8_2
      have h := h9_2
      clear h9_2
      obtain ⟨hb, h⟩ := jx_ite_inv h
      have h9 := Option.some.inj h
      subst h9
      exact h0
    · rw [if_neg hc] at h
      obtain ⟨q3, hq, h⟩ := Option.bind_eq_some_iff.mp h
      have f_q3 := kQ.step h0 (k_r_function0 σ σ kQ.rfl q3 hq)
      have h9 := Option.some.inj h
      subst h9
      exact f_q3
theorem k_r_readAll_20 (σ0 : jx_S) (σ : jx_S) (h0 : kQ σ0 σ) (t : (Int32 × jx_S)) (h : p_r_readAll_20 σ = some t) : kqI σ0 t := by
  refine jx_loop_ok (E := fun s t => kQ σ0 (s) → kqI σ0 t) (fun s t hs => ?_) _ _ _ h h0
  cases t with
  | inl s1 => exact fun b hb hf => hb (k_r_readAll_20_s σ0 (s) hf _ hs)
  | inr b => exact fun hf => k_r_readAll_20_s σ0 (s) hf _ hs
theorem k_r_readAll (σ0 : jx_S) (σ : jx_S) (h0 : kQ σ0 σ) (t : (Int32 × jx_S)) (h : p_r_readAll σ = some t) : kqI σ0 t := by
  unfold p_r_readAll at h
  exact k_r_readAll_20 σ0 (jx_i (jx_i (jx_i (jx_i σ 106 40 (0 : Int32)) 106 25 (0 : Int32)) 106 38 (0 : Int32)) 106 41 (1 : Int32)) (kQ.i (kQ.i (kQ.i (kQ.i h0 (by decide)) (by decide)) (by decide)) (by decide)) _ h
def kq_r_sameNames_4 (σ0 : jx_S) (t : ((Int32 × Int32 × jx_S) ⊕ (Int32 × jx_S))) : Prop := match t with
  | .inl s => kQ σ0 (s.2.2)
  | .inr t => kqI σ0 t
def kq_r_sameNames_17 (σ0 : jx_S) (t : ((Int32 × Int32 × Int32 × Int32 × jx_S) ⊕ ((Int32 × Int32 × jx_S) ⊕ (Int32 × jx_S)))) : Prop := match t with
  | .inl s => kQ σ0 (s.2.2.2.2)
  | .inr t => kq_r_sameNames_4 σ0 t
def kq_r_sameNames_91 (σ0 : jx_S) (t : ((Int32 × Int32 × Int32 × jx_S) ⊕ ((Int32 × Int32 × jx_S) ⊕ (Int32 × jx_S)))) : Prop := match t with
  | .inl s => kQ σ0 (s.2.2.2)
  | .inr t => kq_r_sameNames_4 σ0 t
def kq_r_sameNames_105 (σ0 : jx_S) (t : ((Int32 × Int32 × Int32 × Int32 × jx_S) ⊕ ((Int32 × Int32 × Int32 × jx_S) ⊕ ((Int32 × Int32 × jx_S) ⊕ (Int32 × jx_S))))) : Prop := match t with
  | .inl s => kQ σ0 (s.2.2.2.2)
  | .inr t => kq_r_sameNames_91 σ0 t
theorem k_r_sameNames_182 (σ0 : jx_S) (x2 : Int32) (x4 : Int32) (x5 : Int32) (y0 : Int32) (σ : jx_S) (h0 : kQ σ0 σ) (t : ((Int32 × Int32 × Int32 × Int32 × jx_S) ⊕ ((Int32 × Int32 × Int32 × jx_S) ⊕ ((Int32 × Int32 × jx_S) ⊕ (Int32 × jx_S))))) (h : p_r_sameNames_182 x2 x4 x5 y0 σ = some t) : kq_r_sameNames_105 σ0 t := by
  unfold p_r_sameNames_182 at h
  have h9 := Option.some.inj h
  subst h9
  exact h0
theorem k_r_sameNames_181 (σ0 : jx_S) (x1 : Int32) (x2 : Int32) (x4 : Int32) (x5 : Int32) (σ : jx_S) (h0 : kQ σ0 σ) (t : ((Int32 × Int32 × Int32 × Int32 × jx_S) ⊕ ((Int32 × Int32 × Int32 × jx_S) ⊕ ((Int32 × Int32 × jx_S) ⊕ (Int32 × jx_S))))) (h : p_r_sameNames_181 x1 x2 x4 x5 σ = some t) : kq_r_sameNames_105 σ0 t := by
  unfold p_r_sameNames_181 at h
  exact k_r_sameNames_182 σ0 x2 x4 x5 x1 σ h0 _ h
theorem k_r_sameNames_176 (σ0 : jx_S) (x2 : Int32) (x4 : Int32) (x5 : Int32) (x6 : Int32) (σ : jx_S) (h0 : kQ σ0 σ) (t : ((Int32 × Int32 × Int32 × Int32 × jx_S) ⊕ ((Int32 × Int32 × Int32 × jx_S) ⊕ ((Int32 × Int32 × jx_S) ⊕ (Int32 × jx_S))))) (h : p_r_sameNames_176 x2 x4 x5 x6 σ = some t) : kq_r_sameNames_105 σ0 t := by
  unfold p_r_sameNames_176 at h
  exact k_r_sameNames_182 σ0 x2 x4 x5 x6 σ h0 _ h
theorem k_r_sameNames_105_s (σ0 : jx_S) (x1 : Int32) (x2 : Int32) (x4 : Int32) (x5 : Int32) (σ : jx_S) (h0 : kQ σ0 σ) (t : ((Int32 × Int32 × Int32 × Int32 × jx_S) ⊕ ((Int32 × Int32 × Int32 × jx_S) ⊕ ((Int32 × Int32 × jx_S) ⊕ (Int32 × jx_S))))) (h : p_r_sameNames_105_s x1 x2 x4 x5 σ = some t) : kq_r_sameNames_105 σ0 t := by
  unfold p_r_sameNames_105_s at h
  rcases Classical.em (x4 ≤ x5) with hc | hc
  · rw [if_pos hc] at h
    obtain ⟨t9_4, h9_4, h8_4⟩ := Option.map_eq_some_iff.mp h
    clear h
    subst h8_4
    have h := h9_4
    clear h9_4
    have h9 := Option.some.inj h
    subst h9
    exact h0
  · rw [if_neg hc] at h
    obtain ⟨hi, h⟩ := jx_ite0_inv h
    obtain ⟨hi, h⟩ := jx_ite0_inv h
    obtain ⟨hi, h⟩ := jx_ite0_inv h
    obtain ⟨hi, h⟩ := jx_ite0_inv h
    obtain ⟨q5, hq, h⟩ := Option.bind_eq_some_iff.mp h
    have f_q5 := kQ.step h0 (kQ.fr (f_r_isSame σ ((σ.1 134) ((((8 : Int32) * x2) + x4)).toNatClampNeg) ((σ.1 134) ((((8 : Int32) * x2) + x5)).toNatClampNeg) σ jFr.rfl q5 hq) (by decide) (by decide) (by decide))
    rcases Classical.em (q5.1 = 0) with hc | hc
    · rw [if_pos hc] at h
      exact k_r_sameNames_181 σ0 x1 x2 x4 x5 q5.2 f_q5 _ h
    · rw [if_neg hc] at h
      rcases Classical.em (x1 < 0) with hc | hc
      · rw [if_pos hc] at h
        exact k_r_sameNames_176 σ0 x2 x4 x5 ((σ.1 109) (((σ.1 134) ((((8 : Int32) * x2) + x4)).toNatClampNeg)).toNatClampNeg) q5.2 f_q5 _ h
      · rw [if_neg hc] at h
        rcases Classical.em (x1 ≤ ((σ.1 109) (((σ.1 134) ((((8 : Int32) * x2) + x4)).toNatClampNeg)).toNatClampNeg)) with hc | hc
        · rw [if_pos hc] at h
          exact k_r_sameNames_181 σ0 x1 x2 x4 x5 q5.2 f_q5 _ h
        · rw [if_neg hc] at h
          exact k_r_sameNames_176 σ0 x2 x4 x5 ((σ.1 109) (((σ.1 134) ((((8 : Int32) * x2) + x4)).toNatClampNeg)).toNatClampNeg) q5.2 f_q5 _ h
theorem k_r_sameNames_105 (σ0 : jx_S) (x1 : Int32) (x2 : Int32) (x4 : Int32) (x5 : Int32) (σ : jx_S) (h0 : kQ σ0 σ) (t : ((Int32 × Int32 × Int32 × jx_S) ⊕ ((Int32 × Int32 × jx_S) ⊕ (Int32 × jx_S)))) (h : p_r_sameNames_105 x1 x2 x4 x5 σ = some t) : kq_r_sameNames_91 σ0 t := by
  refine jx_loop_ok (E := fun s t => kQ σ0 (s.2.2.2.2) → kq_r_sameNames_91 σ0 t) (fun s t hs => ?_) _ _ _ h h0
  cases t with
  | inl s1 => exact fun b hb hf => hb (k_r_sameNames_105_s σ0 (s.1) (s.2.1) (s.2.2.1) (s.2.2.2.1) (s.2.2.2.2) hf _ hs)
  | inr b => exact fun hf => k_r_sameNames_105_s σ0 (s.1) (s.2.1) (s.2.2.1) (s.2.2.2.1) (s.2.2.2.2) hf _ hs
theorem k_r_sameNames_91_s (σ0 : jx_S) (x1 : Int32) (x2 : Int32) (x4 : Int32) (σ : jx_S) (h0 : kQ σ0 σ) (t : ((Int32 × Int32 × Int32 × jx_S) ⊕ ((Int32 × Int32 × jx_S) ⊕ (Int32 × jx_S)))) (h : p_r_sameNames_91_s x1 x2 x4 σ = some t) : kq_r_sameNames_91 σ0 t := by
  unfold p_r_sameNames_91_s at h
  obtain ⟨hi, h⟩ := jx_ite0_inv h
  rcases Classical.em (((σ.1 127) (x2).toNatClampNeg) ≤ x4) with hc | hc
  · rw [if_pos hc] at h
    obtain ⟨t9_3, h9_3, h8_3⟩ := Option.map_eq_some_iff.mp h
    clear h
    subst h8_3
    have h := h9_3
    clear h9_3
    have h9 := Option.some.inj h
    subst h9
    exact h0
  · rw [if_neg hc] at h
    exact k_r_sameNames_105 σ0 x1 x2 x4 (0 : Int32) σ h0 _ h
theorem k_r_sameNames_91 (σ0 : jx_S) (x1 : Int32) (x2 : Int32) (x4 : Int32) (σ : jx_S) (h0 : kQ σ0 σ) (t : ((Int32 × Int32 × jx_S) ⊕ (Int32 × jx_S))) (h : p_r_sameNames_91 x1 x2 x4 σ = some t) : kq_r_sameNames_4 σ0 t := by
  refine jx_loop_ok (E := fun s t => kQ σ0 (s.2.2.2) → kq_r_sameNames_4 σ0 t) (fun s t hs => ?_) _ _ _ h h0
  cases t with
  | inl s1 => exact fun b hb hf => hb (k_r_sameNames_91_s σ0 (s.1) (s.2.1) (s.2.2.1) (s.2.2.2) hf _ hs)
  | inr b => exact fun hf => k_r_sameNames_91_s σ0 (s.1) (s.2.1) (s.2.2.1) (s.2.2.2) hf _ hs
theorem k_r_sameNames_87 (σ0 : jx_S) (x2 : Int32) (y0 : Int32) (σ : jx_S) (h0 : kQ σ0 σ) (t : ((Int32 × Int32 × jx_S) ⊕ (Int32 × jx_S))) (h : p_r_sameNames_87 x2 y0 σ = some t) : kq_r_sameNames_4 σ0 t := by
  unfold p_r_sameNames_87 at h
  exact k_r_sameNames_91 σ0 y0 x2 (0 : Int32) σ h0 _ h
theorem k_r_sameNames_86 (σ0 : jx_S) (x1 : Int32) (x2 : Int32) (σ : jx_S) (h0 : kQ σ0 σ) (t : ((Int32 × Int32 × jx_S) ⊕ (Int32 × jx_S))) (h : p_r_sameNames_86 x1 x2 σ = some t) : kq_r_sameNames_4 σ0 t := by
  unfold p_r_sameNames_86 at h
  exact k_r_sameNames_87 σ0 x2 x1 σ h0 _ h
theorem k_r_sameNames_72 (σ0 : jx_S) (x2 : Int32) (σ : jx_S) (h0 : kQ σ0 σ) (t : ((Int32 × Int32 × jx_S) ⊕ (Int32 × jx_S))) (h : p_r_sameNames_72 x2 σ = some t) : kq_r_sameNames_4 σ0 t := by
  unfold p_r_sameNames_72 at h
  obtain ⟨hi, h⟩ := jx_ite0_inv h
  obtain ⟨hi, h⟩ := jx_ite0_inv h
  exact k_r_sameNames_87 σ0 x2 ((σ.1 109) (((σ.1 126) (x2).toNatClampNeg)).toNatClampNeg) σ h0 _ h
theorem k_r_sameNames_17_s (σ0 : jx_S) (x1 : Int32) (x2 : Int32) (x3 : Int32) (x4 : Int32) (σ : jx_S) (h0 : kQ σ0 σ) (t : ((Int32 × Int32 × Int32 × Int32 × jx_S) ⊕ ((Int32 × Int32 × jx_S) ⊕ (Int32 × jx_S)))) (h : p_r_sameNames_17_s x1 x2 x3 x4 σ = some t) : kq_r_sameNames_17 σ0 t := by
  unfold p_r_sameNames_17_s at h
  rcases Classical.em (x2 ≤ x4) with hc | hc
  · rw [if_pos hc] at h
    obtain ⟨t9_6, h9_6, h8_6⟩ := Option.map_eq_some_iff.mp h
    clear h
    subst h8_6
    have h := h9_6
    clear h9_6
    rcases Classical.em (x3 = 0) with hc | hc
    · rw [if_pos hc] at h
      exact k_r_sameNames_86 σ0 x1 x2 σ h0 _ h
    · rw [if_neg hc] at h
      rcases Classical.em (x1 < 0) with hc | hc
      · rw [if_pos hc] at h
        exact k_r_sameNames_72 σ0 x2 σ h0 _ h
      · rw [if_neg hc] at h
        obtain ⟨hi, h⟩ := jx_ite0_inv h
        obtain ⟨hi, h⟩ := jx_ite0_inv h
        rcases Classical.em (x1 ≤ ((σ.1 109) (((σ.1 126) (x2).toNatClampNeg)).toNatClampNeg)) with hc | hc
        · rw [if_pos hc] at h
          exact k_r_sameNames_86 σ0 x1 x2 σ h0 _ h
        · rw [if_neg hc] at h
          exact k_r_sameNames_72 σ0 x2 σ h0 _ h
  · rw [if_neg hc] at h
    obtain ⟨hi, h⟩ := jx_ite0_inv h
    obtain ⟨hi, h⟩ := jx_ite0_inv h
    obtain ⟨q7, hq, h⟩ := Option.bind_eq_some_iff.mp h
    have f_q7 := kQ.step h0 (kQ.fr (f_r_isSame σ ((σ.1 126) (x2).toNatClampNeg) ((σ.1 126) (x4).toNatClampNeg) σ jFr.rfl q7 hq) (by decide) (by decide) (by decide))
    have h9 := Option.some.inj h
    subst h9
    exact f_q7
theorem k_r_sameNames_17 (σ0 : jx_S) (x1 : Int32) (x2 : Int32) (x3 : Int32) (x4 : Int32) (σ : jx_S) (h0 : kQ σ0 σ) (t : ((Int32 × Int32 × jx_S) ⊕ (Int32 × jx_S))) (h : p_r_sameNames_17 x1 x2 x3 x4 σ = some t) : kq_r_sameNames_4 σ0 t := by
  refine jx_loop_ok (E := fun s t => kQ σ0 (s.2.2.2.2) → kq_r_sameNames_4 σ0 t) (fun s t hs => ?_) _ _ _ h h0
  cases t with
  | inl s1 => exact fun b hb hf => hb (k_r_sameNames_17_s σ0 (s.1) (s.2.1) (s.2.2.1) (s.2.2.2.1) (s.2.2.2.2) hf _ hs)
  | inr b => exact fun hf => k_r_sameNames_17_s σ0 (s.1) (s.2.1) (s.2.2.1) (s.2.2.2.1) (s.2.2.2.2) hf _ hs
theorem k_r_sameNames_4_s (σ0 : jx_S) (x1 : Int32) (x2 : Int32) (σ : jx_S) (h0 : kQ σ0 σ) (t : ((Int32 × Int32 × jx_S) ⊕ (Int32 × jx_S))) (h : p_r_sameNames_4_s x1 x2 σ = some t) : kq_r_sameNames_4 σ0 t := by
  unfold p_r_sameNames_4_s at h
  rcases Classical.em ((σ.1 106 38) ≤ x2) with hc | hc
  · rw [if_pos hc] at h
    obtain ⟨t9_2, h9_2, h8_2⟩ := Option.map_eq_some_iff.mp h
    clear h
    subst h8_2
    have h := h9_2
    clear h9_2
    rcases Classical.em (x1 < 0) with hc | hc
    · rw [if_pos hc] at h
      have h9 := Option.some.inj h
      subst h9
      exact h0
    · rw [if_neg hc] at h
      obtain ⟨q1, hq, h⟩ := Option.bind_eq_some_iff.mp h
      have f_q1 := kQ.step h0 (k_r_fails σ (5 : Int32) x1 σ kQ.rfl q1 hq (by decide))
      rcases Classical.em (q1.1 = 0) with hc | hc
      · rw [if_pos hc] at h
        have h9 := Option.some.inj h
        subst h9
        exact f_q1
      · rw [if_neg hc] at h
        have h9 := Option.some.inj h
        subst h9
        exact f_q1
  · rw [if_neg hc] at h
    exact k_r_sameNames_17 σ0 x1 x2 (0 : Int32) (0 : Int32) σ h0 _ h
theorem k_r_sameNames_4 (σ0 : jx_S) (x1 : Int32) (x2 : Int32) (σ : jx_S) (h0 : kQ σ0 σ) (t : (Int32 × jx_S)) (h : p_r_sameNames_4 x1 x2 σ = some t) : kqI σ0 t := by
  refine jx_loop_ok (E := fun s t => kQ σ0 (s.2.2) → kqI σ0 t) (fun s t hs => ?_) _ _ _ h h0
  cases t with
  | inl s1 => exact fun b hb hf => hb (k_r_sameNames_4_s σ0 (s.1) (s.2.1) (s.2.2) hf _ hs)
  | inr b => exact fun hf => k_r_sameNames_4_s σ0 (s.1) (s.2.1) (s.2.2) hf _ hs
theorem k_r_sameNames (σ0 : jx_S) (σ : jx_S) (h0 : kQ σ0 σ) (t : (Int32 × jx_S)) (h : p_r_sameNames σ = some t) : kqI σ0 t := by
  unfold p_r_sameNames at h
  exact k_r_sameNames_4 σ0 (-1 : Int32) (0 : Int32) σ h0 _ h
theorem k_r_checkName_77 (σ0 : jx_S) (x3 : Int32) (σ : jx_S) (h0 : kQ σ0 σ) (t : (Int32 × jx_S)) (h : p_r_checkName_77 x3 σ = some t) : kqI σ0 t := by
  unfold p_r_checkName_77 at h
  obtain ⟨q2, hq, h⟩ := Option.bind_eq_some_iff.mp h
  have f_q2 := kQ.step h0 (k_r_fails σ (7 : Int32) x3 σ kQ.rfl q2 hq (by decide))
  obtain ⟨hb, h⟩ := jx_ite_inv h
  have h9 := Option.some.inj h
  subst h9
  exact f_q2
def kq_r_checkName_117 (σ0 : jx_S) (t : ((Int32 × Int32 × Int32 × Int32 × jx_S) ⊕ (Int32 × jx_S))) : Prop := match t with
  | .inl s => kQ σ0 (s.2.2.2.2)
  | .inr t => kqI σ0 t
theorem k_r_checkName_117_s (σ0 : jx_S) (x1 : Int32) (x4 : Int32) (x5 : Int32) (x6 : Int32) (σ : jx_S) (h0 : kQ σ0 σ) (t : ((Int32 × Int32 × Int32 × Int32 × jx_S) ⊕ (Int32 × jx_S))) (h : p_r_checkName_117_s x1 x4 x5 x6 σ = some t) : kq_r_checkName_117 σ0 t := by
  unfold p_r_checkName_117_s at h
  obtain ⟨hi, h⟩ := jx_ite0_inv h
  rcases Classical.em (((σ.1 119) (x1).toNatClampNeg) ≤ x6) with hc | hc
  · rw [if_pos hc] at h
    obtain ⟨t9_4, h9_4, h8_4⟩ := Option.map_eq_some_iff.mp h
    clear h
    subst h8_4
    have h := h9_4
    clear h9_4
    have h9 := Option.some.inj h
    subst h9
    exact h0
  · rw [if_neg hc] at h
    obtain ⟨hi, h⟩ := jx_ite0_inv h
    obtain ⟨hi, h⟩ := jx_ite0_inv h
    obtain ⟨hi, h⟩ := jx_ite0_inv h
    obtain ⟨q5, hq, h⟩ := Option.bind_eq_some_iff.mp h
    have f_q5 := kQ.step (kQ.ia h0 (by decide)) (kQ.fr (f_r_typeOf (jx_i σ 144 ((((x4 + ((σ.1 119) (x1).toNatClampNeg)) - (1 : Int32)) - x6)).toNatClampNeg x5) x1 x6 (jx_i σ 144 ((((x4 + ((σ.1 119) (x1).toNatClampNeg)) - (1 : Int32)) - x6)).toNatClampNeg x5) jFr.rfl q5 hq) (by decide) (by decide) (by decide))
    obtain ⟨hi, h⟩ := jx_ite0_inv h
    obtain ⟨hi, h⟩ := jx_ite0_inv h
    have h9 := Option.some.inj h
    subst h9
    exact (kQ.ia f_q5 (by decide))
theorem k_r_checkName_117 (σ0 : jx_S) (x1 : Int32) (x4 : Int32) (x5 : Int32) (x6 : Int32) (σ : jx_S) (h0 : kQ σ0 σ) (t : (Int32 × jx_S)) (h : p_r_checkName_117 x1 x4 x5 x6 σ = some t) : kqI σ0 t := by
  refine jx_loop_ok (E := fun s t => kQ σ0 (s.2.2.2.2) → kqI σ0 t) (fun s t hs => ?_) _ _ _ h h0
  cases t with
  | inl s1 => exact fun b hb hf => hb (k_r_checkName_117_s σ0 (s.1) (s.2.1) (s.2.2.1) (s.2.2.2.1) (s.2.2.2.2) hf _ hs)
  | inr b => exact fun hf => k_r_checkName_117_s σ0 (s.1) (s.2.1) (s.2.2.1) (s.2.2.2.1) (s.2.2.2.2) hf _ hs
theorem k_r_checkName_54 (σ0 : jx_S) (x1 : Int32) (x2 : Int32) (x3 : Int32) (σ : jx_S) (h0 : kQ σ0 σ) (t : (Int32 × jx_S)) (h : p_r_checkName_54 x1 x2 x3 σ = some t) : kqI σ0 t := by
  unfold p_r_checkName_54 at h
  obtain ⟨hi, h⟩ := jx_ite0_inv h
  obtain ⟨q1, hq, h⟩ := Option.bind_eq_some_iff.mp h
  have f_q1 := kQ.step h0 (kQ.fr (f_r_takes σ x1 σ jFr.rfl q1 hq) (by decide) (by decide) (by decide))
  rcases Classical.em (q1.1 < ((σ.1 119) (x1).toNatClampNeg)) with hc | hc
  · rw [if_pos hc] at h
    exact k_r_checkName_77 σ0 x3 q1.2 f_q1 _ h
  · rw [if_neg hc] at h
    obtain ⟨q3, hq, h⟩ := Option.bind_eq_some_iff.mp h
    have f_q3 := kQ.step f_q1 (kQ.fr (f_r_left q1.2 x1 q1.2 jFr.rfl q3 hq) (by decide) (by decide) (by decide))
    rcases Classical.em (q3.1 = x2) with hc | hc
    · rw [if_pos hc] at h
      obtain ⟨hi, h⟩ := jx_ite0_inv h
      obtain ⟨hi, h⟩ := jx_ite0_inv h
      exact k_r_checkName_117 σ0 x1 (q3.2.1 106 55) ((q3.2.1 114) (x1).toNatClampNeg) (0 : Int32) (jx_i q3.2 106 55 ((q3.2.1 106 55) + ((q3.2.1 119) (x1).toNatClampNeg))) (kQ.i f_q3 (by decide)) _ h
    · rw [if_neg hc] at h
      exact k_r_checkName_77 σ0 x3 q3.2 f_q3 _ h
theorem k_r_checkName (σ0 : jx_S) (x1 : Int32) (x2 : Int32) (σ : jx_S) (h0 : kQ σ0 σ) (t : (Int32 × jx_S)) (h : p_r_checkName x1 x2 σ = some t) : kqI σ0 t := by
  unfold p_r_checkName at h
  obtain ⟨hi, h⟩ := jx_ite0_inv h
  obtain ⟨hi, h⟩ := jx_ite0_inv h
  obtain ⟨hi, h⟩ := jx_ite0_inv h
  rcases Classical.em (0 ≤ ((σ.1 117) (x1).toNatClampNeg)) with hc | hc
  · rw [if_pos hc] at h
    exact k_r_checkName_54 σ0 x1 x2 ((σ.1 109) (((σ.1 113) (x1).toNatClampNeg)).toNatClampNeg) σ h0 _ h
  · rw [if_neg hc] at h
    obtain ⟨hi, h⟩ := jx_ite0_inv h
    obtain ⟨q6, hq, h⟩ := Option.bind_eq_some_iff.mp h
    have f_q6 := kQ.step h0 (kQ.fr (f_r_functionNamed σ ((σ.1 113) (x1).toNatClampNeg) σ jFr.rfl q6 hq) (by decide) (by decide) (by decide))
    obtain ⟨hi, h⟩ := jx_ite0_inv h
    obtain ⟨hi, h⟩ := jx_ite0_inv h
    rcases Classical.em (0 ≤ (((jx_i q6.2 123 (x1).toNatClampNeg q6.1).1 123) (x1).toNatClampNeg)) with hc | hc
    · rw [if_pos hc] at h
      exact k_r_checkName_54 σ0 x1 x2 ((σ.1 109) (((σ.1 113) (x1).toNatClampNeg)).toNatClampNeg) (jx_i q6.2 123 (x1).toNatClampNeg q6.1) (kQ.ia f_q6 (by decide)) _ h
    · rw [if_neg hc] at h
      obtain ⟨q7, hq, h⟩ := Option.bind_eq_some_iff.mp h
      have f_q7 := kQ.step (kQ.ia f_q6 (by decide)) (k_r_fails (jx_i q6.2 123 (x1).toNatClampNeg q6.1) (6 : Int32) ((σ.1 109) (((σ.1 113) (x1).toNatClampNeg)).toNatClampNeg) (jx_i q6.2 123 (x1).toNatClampNeg q6.1) kQ.rfl q7 hq (by decide))
      obtain ⟨hb, h⟩ := jx_ite_inv h
      have h9 := Option.some.inj h
      subst h9
      exact f_q7
theorem k_r_check_380 (σ0 : jx_S) (y0 : Int32) (y1 : Int32) (σ : jx_S) (h0 : kQ σ0 σ) (t : (Int32 × jx_S)) (h : p_r_check_380 y0 y1 σ = some t) : kqI σ0 t := by
  unfold p_r_check_380 at h
  obtain ⟨q5, hq, h⟩ := Option.bind_eq_some_iff.mp h
  have f_q5 := kQ.step h0 (kQ.fr (f_r_want σ y1 y0 σ jFr.rfl q5 hq) (by decide) (by decide) (by decide))
  have h9 := Option.some.inj h
  subst h9
  exact f_q5
theorem k_r_check_335 (σ0 : jx_S) (x1 : Int32) (x2 : Int32) (σ : jx_S) (h0 : kQ σ0 σ) (t : (Int32 × jx_S)) (h : p_r_check_335 x1 x2 σ = some t) : kqI σ0 t := by
  unfold p_r_check_335 at h
  obtain ⟨hi, h⟩ := jx_ite0_inv h
  obtain ⟨q3, hq, h⟩ := Option.bind_eq_some_iff.mp h
  have f_q3 := kQ.step h0 (kQ.fr (f_r_want σ ((σ.1 116) (x1).toNatClampNeg) x2 σ jFr.rfl q3 hq) (by decide) (by decide) (by decide))
  obtain ⟨hi, h⟩ := jx_ite0_inv h
  obtain ⟨q4, hq, h⟩ := Option.bind_eq_some_iff.mp h
  have f_q4 := kQ.step f_q3 (kQ.fr (f_r_want q3 ((q3.1 115) (x1).toNatClampNeg) x2 q3 jFr.rfl q4 hq) (by decide) (by decide) (by decide))
  obtain ⟨hi, h⟩ := jx_ite0_inv h
  obtain ⟨hi, h⟩ := jx_ite0_inv h
  rcases Classical.em (¬ ((q4.1 112) (x1).toNatClampNeg) = (7 : Int32)) with hc | hc
  · rw [if_pos hc] at h
    exact k_r_check_380 σ0 (1 : Int32) ((q4.1 114) (x1).toNatClampNeg) q4 f_q4 _ h
  · rw [if_neg hc] at h
    exact k_r_check_380 σ0 (0 : Int32) ((q4.1 114) (x1).toNatClampNeg) q4 f_q4 _ h
theorem k_r_check_414 (σ0 : jx_S) (x1 : Int32) (σ : jx_S) (h0 : kQ σ0 σ) (t : (Int32 × jx_S)) (h : p_r_check_414 x1 σ = some t) : kqI σ0 t := by
  unfold p_r_check_414 at h
  obtain ⟨hi, h⟩ := jx_ite0_inv h
  obtain ⟨q8, hq, h⟩ := Option.bind_eq_some_iff.mp h
  have f_q8 := kQ.step h0 (kQ.fr (f_r_want σ ((σ.1 115) (x1).toNatClampNeg) (0 : Int32) σ jFr.rfl q8 hq) (by decide) (by decide) (by decide))
  obtain ⟨hi, h⟩ := jx_ite0_inv h
  obtain ⟨q9, hq, h⟩ := Option.bind_eq_some_iff.mp h
  have f_q9 := kQ.step f_q8 (kQ.fr (f_r_want q8 ((q8.1 114) (x1).toNatClampNeg) (0 : Int32) q8 jFr.rfl q9 hq) (by decide) (by decide) (by decide))
  have h9 := Option.some.inj h
  subst h9
  exact f_q9
theorem k_r_check_201 (σ0 : jx_S) (x1 : Int32) (x2 : Int32) (x3 : Int32) (x4 : Int32) (σ : jx_S) (h0 : kQ σ0 σ) (t : (Int32 × jx_S)) (h : p_r_check_201 x1 x2 x3 x4 σ = some t) : kqI σ0 t := by
  unfold p_r_check_201 at h
  rcases Classical.em (¬ x4 = 0) with hc | hc
  · rw [if_pos hc] at h
    obtain ⟨hi, h⟩ := jx_ite0_inv h
    rcases Classical.em (((σ.1 112) (x1).toNatClampNeg) = 2) with hc0 | hc0
    · rw [if_pos hc0] at h
      have h9 := Option.some.inj h
      subst h9
      exact h0
    · rw [if_neg hc0] at h
      rcases Classical.em (((σ.1 112) (x1).toNatClampNeg) = 5) with hc1 | hc1
      · rw [if_pos hc1] at h
        obtain ⟨hi, h⟩ := jx_ite0_inv h
        obtain ⟨q1, hq, h⟩ := Option.bind_eq_some_iff.mp h
        have f_q1 := kQ.step h0 (kQ.fr (f_r_want σ ((σ.1 115) (x1).toNatClampNeg) x2 σ jFr.rfl q1 hq) (by decide) (by decide) (by decide))
        obtain ⟨hi, h⟩ := jx_ite0_inv h
        obtain ⟨hi, h⟩ := jx_ite0_inv h
        obtain ⟨hi, h⟩ := jx_ite0_inv h
        obtain ⟨q2, hq, h⟩ := Option.bind_eq_some_iff.mp h
        have f_q2 := kQ.step f_q1 (kQ.fr (f_r_want q1 ((q1.1 114) (x1).toNatClampNeg) ((q1.1 137) ((((30 : Int32) * (q1.1 106 56)) + ((q1.1 117) (x1).toNatClampNeg))).toNatClampNeg) q1 jFr.rfl q2 hq) (by decide) (by decide) (by decide))
        have h9 := Option.some.inj h
        subst h9
        exact f_q2
      · rw [if_neg hc1] at h
        rcases Classical.em (((σ.1 112) (x1).toNatClampNeg) = 7) with hc2 | hc2
        · rw [if_pos hc2] at h
          exact k_r_check_335 σ0 x1 x2 σ h0 _ h
        · rw [if_neg hc2] at h
          rcases Classical.em (((σ.1 112) (x1).toNatClampNeg) = 10) with hc3 | hc3
          · rw [if_pos hc3] at h
            exact k_r_check_335 σ0 x1 x2 σ h0 _ h
          · rw [if_neg hc3] at h
            rcases Classical.em (((σ.1 112) (x1).toNatClampNeg) = 13) with hc4 | hc4
            · rw [if_pos hc4] at h
              have h9 := Option.some.inj h
              subst h9
              exact h0
            · rw [if_neg hc4] at h
              rcases Classical.em (((σ.1 112) (x1).toNatClampNeg) = 14) with hc5 | hc5
              · rw [if_pos hc5] at h
                obtain ⟨hi, h⟩ := jx_ite0_inv h
                obtain ⟨q6, hq, h⟩ := Option.bind_eq_some_iff.mp h
                have f_q6 := kQ.step h0 (kQ.fr (f_r_want σ ((σ.1 115) (x1).toNatClampNeg) (1 : Int32) σ jFr.rfl q6 hq) (by decide) (by decide) (by decide))
                obtain ⟨hi, h⟩ := jx_ite0_inv h
                obtain ⟨q7, hq, h⟩ := Option.bind_eq_some_iff.mp h
                have f_q7 := kQ.step f_q6 (kQ.fr (f_r_want q6 ((q6.1 114) (x1).toNatClampNeg) (0 : Int32) q6 jFr.rfl q7 hq) (by decide) (by decide) (by decide))
                have h9 := Option.some.inj h
                subst h9
                exact f_q7
              · rw [if_neg hc5] at h
                rcases Classical.em (((σ.1 112) (x1).toNatClampNeg) = 15) with hc6 | hc6
                · rw [if_pos hc6] at h
                  have h9 := Option.some.inj h
                  subst h9
                  exact h0
                · rw [if_neg hc6] at h
                  exact k_r_check_414 σ0 x1 σ h0 _ h
  · rw [if_neg hc] at h
    obtain ⟨q10, hq, h⟩ := Option.bind_eq_some_iff.mp h
    have f_q10 := kQ.step h0 (k_r_fails σ (7 : Int32) x3 σ kQ.rfl q10 hq (by decide))
    obtain ⟨hb, h⟩ := jx_ite_inv h
    have h9 := Option.some.inj h
    subst h9
    exact f_q10
theorem k_r_check_181 (σ0 : jx_S) (x1 : Int32) (x2 : Int32) (x3 : Int32) (y0 : Int32) (σ : jx_S) (h0 : kQ σ0 σ) (t : (Int32 × jx_S)) (h : p_r_check_181 x1 x2 x3 y0 σ = some t) : kqI σ0 t := by
  unfold p_r_check_181 at h
  exact k_r_check_201 σ0 x1 x2 x3 y0 σ h0 _ h
theorem k_r_check_172 (σ0 : jx_S) (x1 : Int32) (x2 : Int32) (x3 : Int32) (σ : jx_S) (h0 : kQ σ0 σ) (t : (Int32 × jx_S)) (h : p_r_check_172 x1 x2 x3 σ = some t) : kqI σ0 t := by
  unfold p_r_check_172 at h
  rcases Classical.em (¬ x2 = 0) with hc | hc
  · rw [if_pos hc] at h
    exact k_r_check_181 σ0 x1 x2 x3 (0 : Int32) σ h0 _ h
  · rw [if_neg hc] at h
    exact k_r_check_181 σ0 x1 x2 x3 (1 : Int32) σ h0 _ h
theorem k_r_check_196 (σ0 : jx_S) (x1 : Int32) (x2 : Int32) (x3 : Int32) (y0 : Int32) (σ : jx_S) (h0 : kQ σ0 σ) (t : (Int32 × jx_S)) (h : p_r_check_196 x1 x2 x3 y0 σ = some t) : kqI σ0 t := by
  unfold p_r_check_196 at h
  exact k_r_check_201 σ0 x1 x2 x3 y0 σ h0 _ h
theorem k_r_check_186 (σ0 : jx_S) (x1 : Int32) (x2 : Int32) (x3 : Int32) (σ : jx_S) (h0 : kQ σ0 σ) (t : (Int32 × jx_S)) (h : p_r_check_186 x1 x2 x3 σ = some t) : kqI σ0 t := by
  unfold p_r_check_186 at h
  rcases Classical.em (¬ x2 = (1 : Int32)) with hc | hc
  · rw [if_pos hc] at h
    exact k_r_check_196 σ0 x1 x2 x3 (0 : Int32) σ h0 _ h
  · rw [if_neg hc] at h
    exact k_r_check_196 σ0 x1 x2 x3 (1 : Int32) σ h0 _ h
theorem k_r_check_46 (σ0 : jx_S) (x1 : Int32) (x2 : Int32) (x3 : Int32) (y0 : Int32) (σ : jx_S) (h0 : kQ σ0 σ) (t : (Int32 × jx_S)) (h : p_r_check_46 x1 x2 x3 y0 σ = some t) : kqI σ0 t := by
  unfold p_r_check_46 at h
  obtain ⟨hi, h⟩ := jx_ite0_inv h
  rcases Classical.em (((σ.1 112) (x1).toNatClampNeg) = 2) with hc0 | hc0
  · rw [if_pos hc0] at h
    exact k_r_check_172 σ0 x1 x2 x3 σ h0 _ h
  · rw [if_neg hc0] at h
    rcases Classical.em (((σ.1 112) (x1).toNatClampNeg) = 13) with hc1 | hc1
    · rw [if_pos hc1] at h
      exact k_r_check_186 σ0 x1 x2 x3 σ h0 _ h
    · rw [if_neg hc1] at h
      rcases Classical.em (((σ.1 112) (x1).toNatClampNeg) = 14) with hc2 | hc2
      · rw [if_pos hc2] at h
        exact k_r_check_186 σ0 x1 x2 x3 σ h0 _ h
      · rw [if_neg hc2] at h
        rcases Classical.em (((σ.1 112) (x1).toNatClampNeg) = 19) with hc3 | hc3
        · rw [if_pos hc3] at h
          exact k_r_check_172 σ0 x1 x2 x3 σ h0 _ h
        · rw [if_neg hc3] at h
          rcases Classical.em (((σ.1 112) (x1).toNatClampNeg) = 23) with hc4 | hc4
          · rw [if_pos hc4] at h
            exact k_r_check_172 σ0 x1 x2 x3 σ h0 _ h
          · rw [if_neg hc4] at h
            rcases Classical.em (((σ.1 112) (x1).toNatClampNeg) = 24) with hc5 | hc5
            · rw [if_pos hc5] at h
              exact k_r_check_172 σ0 x1 x2 x3 σ h0 _ h
            · rw [if_neg hc5] at h
              rcases Classical.em (((σ.1 112) (x1).toNatClampNeg) = 25) with hc6 | hc6
              · rw [if_pos hc6] at h
                exact k_r_check_172 σ0 x1 x2 x3 σ h0 _ h
              · rw [if_neg hc6] at h
                rcases Classical.em (((σ.1 112) (x1).toNatClampNeg) = 26) with hc7 | hc7
                · rw [if_pos hc7] at h
                  exact k_r_check_172 σ0 x1 x2 x3 σ h0 _ h
                · rw [if_neg hc7] at h
                  rcases Classical.em (((σ.1 112) (x1).toNatClampNeg) = 27) with hc8 | hc8
                  · rw [if_pos hc8] at h
                    exact k_r_check_172 σ0 x1 x2 x3 σ h0 _ h
                  · rw [if_neg hc8] at h
                    exact k_r_check_201 σ0 x1 x2 x3 y0 σ h0 _ h
theorem k_r_check (σ0 : jx_S) (x1 : Int32) (x2 : Int32) (σ : jx_S) (h0 : kQ σ0 σ) (t : (Int32 × jx_S)) (h : p_r_check x1 x2 σ = some t) : kqI σ0 t := by
  unfold p_r_check at h
  obtain ⟨hi, h⟩ := jx_ite0_inv h
  obtain ⟨hi, h⟩ := jx_ite0_inv h
  obtain ⟨hi, h⟩ := jx_ite0_inv h
  obtain ⟨hi, h⟩ := jx_ite0_inv h
  rcases Classical.em (¬ ((σ.1 112) (x1).toNatClampNeg) = (1 : Int32)) with hc | hc
  · rw [if_pos hc] at h
    rcases Classical.em ((2 : Int32) ≤ x2) with hc | hc
    · rw [if_pos hc] at h
      exact k_r_check_46 σ0 x1 x2 ((σ.1 109) (((σ.1 113) (x1).toNatClampNeg)).toNatClampNeg) (0 : Int32) (jx_i σ 124 (x1).toNatClampNeg x2) (kQ.ia h0 (by decide)) _ h
    · rw [if_neg hc] at h
      exact k_r_check_46 σ0 x1 x2 ((σ.1 109) (((σ.1 113) (x1).toNatClampNeg)).toNatClampNeg) (1 : Int32) (jx_i σ 124 (x1).toNatClampNeg x2) (kQ.ia h0 (by decide)) _ h
  · rw [if_neg hc] at h
    obtain ⟨q11, hq, h⟩ := Option.bind_eq_some_iff.mp h
    have f_q11 := kQ.step (kQ.ia h0 (by decide)) (k_r_checkName (jx_i σ 124 (x1).toNatClampNeg x2) x1 x2 (jx_i σ 124 (x1).toNatClampNeg x2) kQ.rfl q11 hq)
    obtain ⟨hb, h⟩ := jx_ite_inv h
    have h9 := Option.some.inj h
    subst h9
    exact f_q11
def kq_r_types_2 (σ0 : jx_S) (t : ((Int32 × jx_S) ⊕ (Int32 × jx_S))) : Prop := match t with
  | .inl s => kQ σ0 (s.2)
  | .inr t => kqI σ0 t
def kq_r_types_36 (σ0 : jx_S) (t : ((Int32 × jx_S) ⊕ ((Int32 × jx_S) ⊕ (Int32 × jx_S)))) : Prop := match t with
  | .inl s => kQ σ0 (s.2)
  | .inr t => kq_r_types_2 σ0 t
theorem k_r_types_36_s (σ0 : jx_S) (x1 : Int32) (σ : jx_S) (h0 : kQ σ0 σ) (t : ((Int32 × jx_S) ⊕ ((Int32 × jx_S) ⊕ (Int32 × jx_S)))) (h : p_r_types_36_s x1 σ = some t) : kq_r_types_36 σ0 t := by
  unfold p_r_types_36_s at h
  rcases Classical.em ((σ.1 106 55) ≤ 0) with hc | hc
  · rw [if_pos hc] at h
    obtain ⟨t9_3, h9_3, h8_3⟩ := Option.map_eq_some_iff.mp h
    clear h
    subst h8_3
    have h := h9_3
    clear h9_3
    have h9 := Option.some.inj h
    subst h9
    exact h0
  · rw [if_neg hc] at h
    obtain ⟨hi, h⟩ := jx_ite0_inv h
    obtain ⟨hi, h⟩ := jx_ite0_inv h
    obtain ⟨q4, hq, h⟩ := Option.bind_eq_some_iff.mp h
    have f_q4 := kQ.step (kQ.i h0 (by decide)) (k_r_check (jx_i σ 106 55 ((σ.1 106 55) - (1 : Int32))) ((σ.1 144) (((σ.1 106 55) - (1 : Int32))).toNatClampNeg) ((σ.1 145) (((σ.1 106 55) - (1 : Int32))).toNatClampNeg) (jx_i σ 106 55 ((σ.1 106 55) - (1 : Int32))) kQ.rfl q4 hq)
    rcases Classical.em (¬ q4.1 = 0) with hc | hc
    · rw [if_pos hc] at h
      have h9 := Option.some.inj h
      subst h9
      exact f_q4
    · rw [if_neg hc] at h
      obtain ⟨t9_6, h9_6, h8_6⟩ := Option.map_eq_some_iff.mp h
      clear h
      subst h8_6
      have h := h9_6
      clear h9_6
      obtain ⟨t9_5, h9_5, h8_5⟩ := Option.map_eq_some_iff.mp h
      clear h
      subst h8_5
      have h := h9_5
      clear h9_5
      have h9 := Option.some.inj h
      subst h9
      exact f_q4
theorem k_r_types_36 (σ0 : jx_S) (x1 : Int32) (σ : jx_S) (h0 : kQ σ0 σ) (t : ((Int32 × jx_S) ⊕ (Int32 × jx_S))) (h : p_r_types_36 x1 σ = some t) : kq_r_types_2 σ0 t := by
  refine jx_loop_ok (E := fun s t => kQ σ0 (s.2) → kq_r_types_2 σ0 t) (fun s t hs => ?_) _ _ _ h h0
  cases t with
  | inl s1 => exact fun b hb hf => hb (k_r_types_36_s σ0 (s.1) (s.2) hf _ hs)
  | inr b => exact fun hf => k_r_types_36_s σ0 (s.1) (s.2) hf _ hs
theorem k_r_types_2_s (σ0 : jx_S) (x1 : Int32) (σ : jx_S) (h0 : kQ σ0 σ) (t : ((Int32 × jx_S) ⊕ (Int32 × jx_S))) (h : p_r_types_2_s x1 σ = some t) : kq_r_types_2 σ0 t := by
  unfold p_r_types_2_s at h
  rcases Classical.em ((σ.1 106 38) ≤ x1) with hc | hc
  · rw [if_pos hc] at h
    obtain ⟨t9_1, h9_1, h8_1⟩ := Option.map_eq_some_iff.mp h
    clear h
    subst h8_1
    have h := h9_1
    clear h9_1
    have h9 := Option.some.inj h
    subst h9
    exact h0
  · rw [if_neg hc] at h
    obtain ⟨hi, h⟩ := jx_ite0_inv h
    obtain ⟨hi, h⟩ := jx_ite0_inv h
    obtain ⟨q2, hq, h⟩ := Option.bind_eq_some_iff.mp h
    have f_q2 := kQ.step (kQ.i (kQ.i h0 (by decide)) (by decide)) (kQ.fr (f_r_want (jx_i (jx_i σ 106 56 x1) 106 55 (0 : Int32)) ((σ.1 131) (x1).toNatClampNeg) ((σ.1 128) (x1).toNatClampNeg) (jx_i (jx_i σ 106 56 x1) 106 55 (0 : Int32)) jFr.rfl q2 hq) (by decide) (by decide) (by decide))
    exact k_r_types_36 σ0 x1 q2 f_q2 _ h
theorem k_r_types_2 (σ0 : jx_S) (x1 : Int32) (σ : jx_S) (h0 : kQ σ0 σ) (t : (Int32 × jx_S)) (h : p_r_types_2 x1 σ = some t) : kqI σ0 t := by
  refine jx_loop_ok (E := fun s t => kQ σ0 (s.2) → kqI σ0 t) (fun s t hs => ?_) _ _ _ h h0
  cases t with
  | inl s1 => exact fun b hb hf => hb (k_r_types_2_s σ0 (s.1) (s.2) hf _ hs)
  | inr b => exact fun hf => k_r_types_2_s σ0 (s.1) (s.2) hf _ hs
theorem k_r_types (σ0 : jx_S) (σ : jx_S) (h0 : kQ σ0 σ) (t : (Int32 × jx_S)) (h : p_r_types σ = some t) : kqI σ0 t := by
  unfold p_r_types at h
  exact k_r_types_2 σ0 (0 : Int32) σ h0 _ h
def kq_r_countCases_2 (σ0 : jx_S) (t : ((Int32 × jx_S) ⊕ (Int32 × jx_S))) : Prop := match t with
  | .inl s => kQ σ0 (s.2)
  | .inr t => kqI σ0 t
def kq_r_countCases_14 (σ0 : jx_S) (t : ((Int32 × Int32 × Int32 × jx_S) ⊕ ((Int32 × jx_S) ⊕ (Int32 × jx_S)))) : Prop := match t with
  | .inl s => kQ σ0 (s.2.2.2)
  | .inr t => kq_r_countCases_2 σ0 t
theorem k_r_countCases_14_s (σ0 : jx_S) (x1 : Int32) (x2 : Int32) (x3 : Int32) (σ : jx_S) (h0 : kQ σ0 σ) (t : ((Int32 × Int32 × Int32 × jx_S) ⊕ ((Int32 × jx_S) ⊕ (Int32 × jx_S)))) (h : p_r_countCases_14_s x1 x2 x3 σ = some t) : kq_r_countCases_14 σ0 t := by
  unfold p_r_countCases_14_s at h
  obtain ⟨hi, h⟩ := jx_ite0_inv h
  rcases Classical.em (((σ.1 127) (x1).toNatClampNeg) ≤ x3) with hc | hc
  · rw [if_pos hc] at h
    obtain ⟨t9_4, h9_4, h8_4⟩ := Option.map_eq_some_iff.mp h
    clear h
    subst h8_4
    have h := h9_4
    clear h9_4
    rcases Classical.em (x2 ≤ (1000 : Int32)) with hc | hc
    · rw [if_pos hc] at h
      obtain ⟨hi, h⟩ := jx_ite0_inv h
      have h9 := Option.some.inj h
      subst h9
      exact (kQ.ia h0 (by decide))
    · rw [if_neg hc] at h
      obtain ⟨t9_3, h9_3, h8_3⟩ := Option.map_eq_some_iff.mp h
      clear h
      subst h8_3
      have h := h9_3
      clear h9_3
      obtain ⟨hi, h⟩ := jx_ite0_inv h
      obtain ⟨hi, h⟩ := jx_ite0_inv h
      obtain ⟨q2, hq, h⟩ := Option.bind_eq_some_iff.mp h
      have f_q2 := kQ.step h0 (k_r_fails σ (8 : Int32) ((σ.1 109) (((σ.1 126) (x1).toNatClampNeg)).toNatClampNeg) σ kQ.rfl q2 hq (by decide))
      obtain ⟨hb, h⟩ := jx_ite_inv h
      have h9 := Option.some.inj h
      subst h9
      exact f_q2
  · rw [if_neg hc] at h
    obtain ⟨hi, h⟩ := jx_ite0_inv h
    have h9 := Option.some.inj h
    subst h9
    exact h0
theorem k_r_countCases_14 (σ0 : jx_S) (x1 : Int32) (x2 : Int32) (x3 : Int32) (σ : jx_S) (h0 : kQ σ0 σ) (t : ((Int32 × jx_S) ⊕ (Int32 × jx_S))) (h : p_r_countCases_14 x1 x2 x3 σ = some t) : kq_r_countCases_2 σ0 t := by
  refine jx_loop_ok (E := fun s t => kQ σ0 (s.2.2.2) → kq_r_countCases_2 σ0 t) (fun s t hs => ?_) _ _ _ h h0
  cases t with
  | inl s1 => exact fun b hb hf => hb (k_r_countCases_14_s σ0 (s.1) (s.2.1) (s.2.2.1) (s.2.2.2) hf _ hs)
  | inr b => exact fun hf => k_r_countCases_14_s σ0 (s.1) (s.2.1) (s.2.2.1) (s.2.2.2) hf _ hs
theorem k_r_countCases_2_s (σ0 : jx_S) (x1 : Int32) (σ : jx_S) (h0 : kQ σ0 σ) (t : ((Int32 × jx_S) ⊕ (Int32 × jx_S))) (h : p_r_countCases_2_s x1 σ = some t) : kq_r_countCases_2 σ0 t := by
  unfold p_r_countCases_2_s at h
  rcases Classical.em ((σ.1 106 38) ≤ x1) with hc | hc
  · rw [if_pos hc] at h
    obtain ⟨t9_1, h9_1, h8_1⟩ := Option.map_eq_some_iff.mp h
    clear h
    subst h8_1
    have h := h9_1
    clear h9_1
    have h9 := Option.some.inj h
    subst h9
    exact h0
  · rw [if_neg hc] at h
    exact k_r_countCases_14 σ0 x1 (1 : Int32) (0 : Int32) σ h0 _ h
theorem k_r_countCases_2 (σ0 : jx_S) (x1 : Int32) (σ : jx_S) (h0 : kQ σ0 σ) (t : (Int32 × jx_S)) (h : p_r_countCases_2 x1 σ = some t) : kqI σ0 t := by
  refine jx_loop_ok (E := fun s t => kQ σ0 (s.2) → kqI σ0 t) (fun s t hs => ?_) _ _ _ h h0
  cases t with
  | inl s1 => exact fun b hb hf => hb (k_r_countCases_2_s σ0 (s.1) (s.2) hf _ hs)
  | inr b => exact fun hf => k_r_countCases_2_s σ0 (s.1) (s.2) hf _ hs
theorem k_r_countCases (σ0 : jx_S) (σ : jx_S) (h0 : kQ σ0 σ) (t : (Int32 × jx_S)) (h : p_r_countCases σ = some t) : kqI σ0 t := by
  unfold p_r_countCases at h
  exact k_r_countCases_2 σ0 (0 : Int32) σ h0 _ h
