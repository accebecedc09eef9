/-! CALLS, 3: compile. -/
theorem c_cmp {τ τ1 : jx_S} {v : Int32} (h12 : τ.1 0 12 = 0) (h : p_cl_compile τ = some (v, τ1)) : τ1.1 0 12 = 1 ∧ v = (if v_cFau_isTold τ1 = 0 then τ1.1 4 10 else -(τ1.1 1 0)) := by
  unfold p_cl_compile at h
  rw [if_neg (fun q => q h12)] at h
  obtain ⟨q1, k1, h⟩ := Option.bind_eq_some_iff.mp h
  obtain ⟨q2, k2, h⟩ := Option.bind_eq_some_iff.mp h
  obtain ⟨q3, k3, h⟩ := Option.bind_eq_some_iff.mp h
  obtain ⟨q4, k4, h⟩ := Option.bind_eq_some_iff.mp h
  obtain ⟨q5, k5, h⟩ := Option.bind_eq_some_iff.mp h
  have e : q5.1 0 12 = 1 := by
    rw [(f_cAna_analyse _ _ jFr.rfl _ k5 0 12 (by decide) (by decide)).1, (f_cTyp_check _ _ jFr.rfl _ k4 0 12 (by decide) (by decide)).1, (f_cRea_readProgram _ _ jFr.rfl _ k3 0 12 (by decide) (by decide)).1, (f_cTok_split _ _ _ jFr.rfl _ k2 0 12 (by decide) (by decide)).1, (f_cFau_clear _ _ jFr.rfl _ k1 0 12 (by decide) (by decide)).1, s_i_eq, u_eq rfl]
  unfold p_cl_compile_63 at h
  by_cases z : v_cFau_isTold q5 = 0
  · rw [if_pos z] at h
    have h9 := Option.some.inj h
    have e1 := (Prod.mk.inj h9).1
    have e2 := (Prod.mk.inj h9).2
    subst e2
    exact ⟨e, by rw [if_pos z]; exact e1.symm⟩
  · rw [if_neg z] at h
    have h9 := Option.some.inj h
    have e1 := (Prod.mk.inj h9).1
    have e2 := (Prod.mk.inj h9).2
    subst e2
    exact ⟨e, by rw [if_neg z]; exact e1.symm⟩
theorem call_compile {τ ρ : jx_S} (h : IV2 τ ρ) : ∃ r τ' ρ', p_cl_compile τ = some (r, τ') ∧ p_r_compile ρ = some (r, ρ') ∧ IV2 τ' ρ' := by
  obtain ⟨T, z, g, h1, h2, h3, h4⟩ := h
  obtain ⟨⟨a1, a2, a3, a4, a5⟩, b, c⟩ := id h1
  rcases h4 with h4 | ⟨a, τ0, τ1, ρ1, v, b1, b2, b3, b4, b5⟩
  · obtain ⟨v, τ', ρ', p1, p2, p3⟩ := compile_all T z a1 τ ρ a2 a3 a4 h4.1 a5 b c
    have hf := f_cl_compile τ τ jFr.rfl _ p1
    have hr := f_r_compile ρ ρ jFr.rfl _ p2
    obtain ⟨e1, e2⟩ := c_cmp h4.1 p1
    have e29 : τ'.1 29 0 = 0 ∧ τ'.1 23 0 = 0 := by
      rcases p3 with q | ⟨E, G, F, nS, tS, R, pN, bN, lN', ty, V, q, _⟩
      · exact q.2.2.2.2.2.2
      · exact q.2.2.2.2.2.2.2.2.2.2.2.2
    refine ⟨v, τ', ρ', p1, p2, T, z, g, iTX_move h1 (fun j => (hf 11 j (by decide) (by simp [fs_cl_compile])).1) (hf 0 10 (by decide) (by decide)).1 (fun j => (hf 21 j (by decide) (by simp [fs_cl_compile])).2) ⟨by rw [e29.1, c.1], by rw [e29.2, c.2]⟩ (fun j => (hr 107 j (by decide) (by simp [fs_r_compile])).1) (hr 106 1 (by decide) (by decide)).1, iAG_move h2 (hf 0 11 (by decide) (by decide)).1 (fun j => (hf 13 j (by decide) (by simp [fs_cl_compile])).1) (hr 106 98 (by decide) (by decide)).1 (fun j => (hr 168 j (by decide) (by simp [fs_r_compile])).1), iTD_move h3 (fun j => (hf 71 j (by decide) (by simp [fs_cl_compile])).1) (fun j => (hf 73 j (by decide) (by simp [fs_cl_compile])).1) (fun j hj => (hr 106 j (by decide) (by revert hj; revert j; decide)).1) (fun j => (hr 153 j (by decide) (by simp [fs_r_compile])).1) (fun j => (hr 167 j (by decide) (by simp [fs_r_compile])).1), Or.inr ⟨e1, τ, τ', ρ', v, ⟨a2, a4, h4.1, b, c⟩, p1, fun _ _ _ _ _ => ⟨rfl, rfl⟩, fun _ _ _ _ _ _ => ⟨rfl, rfl⟩, p3⟩⟩
  · obtain ⟨t1, t2, t3, t4, t5⟩ := b1
    obtain ⟨v', τ1', ρ', p1, p2, p3⟩ := compile_all T z a1 τ0 ρ t1 a3 t2 t3 a5 t4 t5
    rw [b2] at p1
    have h9 := Option.some.inj p1
    have q1 := (Prod.mk.inj h9).1
    have q2 := (Prod.mk.inj h9).2
    subst q1 q2
    have hr := f_r_compile ρ ρ jFr.rfl _ p2
    obtain ⟨e1, e2⟩ := c_cmp t3 b2
    have e10 : τ.1 1 0 = τ1.1 1 0 := (b3 1 0 (by decide) (by decide) (by decide)).1
    have e410 : τ.1 4 10 = τ1.1 4 10 := (b3 4 10 (by decide) (by decide) (by decide)).1
    have et : v_cFau_isTold τ = v_cFau_isTold τ1 := by unfold v_cFau_isTold; rw [e10]
    refine ⟨v, τ, ρ', ?_, p2, T, z, g, iTX_move h1 (fun _ => rfl) rfl (fun _ => rfl) ⟨rfl, rfl⟩ (fun j => (hr 107 j (by decide) (by simp [fs_r_compile])).1) (hr 106 1 (by decide) (by decide)).1, iAG_move h2 rfl (fun _ => rfl) (hr 106 98 (by decide) (by decide)).1 (fun j => (hr 168 j (by decide) (by simp [fs_r_compile])).1), iTD_move h3 (fun _ => rfl) (fun _ => rfl) (fun j hj => (hr 106 j (by decide) (by revert hj; revert j; decide)).1) (fun j => (hr 153 j (by decide) (by simp [fs_r_compile])).1) (fun j => (hr 167 j (by decide) (by simp [fs_r_compile])).1), Or.inr ⟨a, τ0, τ1, ρ', v, ⟨t1, t2, t3, t4, t5⟩, b2, b3, fun _ _ _ _ _ _ => ⟨rfl, rfl⟩, p3⟩⟩
    unfold p_cl_compile p_cl_compile_63
    rw [if_pos (by rw [a]; decide), et, e10, e410, e2]
    split <;> rfl
