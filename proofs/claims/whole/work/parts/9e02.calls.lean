/-! CALLS, 2: feed, wipe, compile, place, argument, told, element. -/
/-- an int that is not below 0 -/
theorem nI_ofP {x : Int32} (h : ¬ x < 0) : ∃ n, n < 2 ^ 31 ∧ x = nI n := by
  have e : (0 : Int32).toInt = 0 := by decide
  have h0 : ¬ x.toInt < (0 : Int32).toInt := fun q => h (Int32.lt_iff_toInt_lt.mpr q)
  have h1 := Int32.toInt_lt x
  refine ⟨x.toInt.toNat, by omega, Int32.toInt_inj.mp ?_⟩
  rw [nI_toInt (by omega)]
  omega
theorem sml {x : Int32} (h1 : ¬ x < 1) (h8 : ¬ 8 < x) : ∃ n, 1 ≤ n ∧ n ≤ 8 ∧ x = nI n := by
  have h0 : ¬ x < 0 := fun q => h1 (by
    have e0 : (0 : Int32).toInt = 0 := by decide
    have e1 : (1 : Int32).toInt = 1 := by decide
    have q' := Int32.lt_iff_toInt_lt.mp q
    exact Int32.lt_iff_toInt_lt.mpr (by omega))
  obtain ⟨n, n1, rfl⟩ := nI_ofP h0
  refine ⟨n, ?_, ?_, rfl⟩
  · exact Classical.byContradiction (fun q => h1 (nI_lt (b := 1) (by omega) (by omega)))
  · exact Classical.byContradiction (fun q => h8 (nI_lt (a := 8) (by omega) n1))
/-- both forget -/
theorem iTD_0 {τ ρ : jx_S} (h : ∀ j, j < 10 → τ.1 71 j = 0) (k : rf_zero ρ) : TD τ ρ := by
  obtain ⟨k3, k4, k5, k38, k39, k98, k62, k67, k70, k74, k76, k82, k83, k85, k88, k91, k92, k93, k95, k96, k87⟩ := k
  exact ⟨0, 0, ⟨by omega, k67, h 1 (by omega), h 2 (by omega)⟩, ⟨by rw [h 0 (by omega), k88], by rw [h 3 (by omega), k70], by rw [h 4 (by omega), k83], by rw [h 5 (by omega), k93], by rw [h 8 (by omega), k91], by rw [h 9 (by omega), k92]⟩, ⟨by omega, h 6 (by omega), k95, fun i hi => by omega⟩, by rw [h 7 (by omega), k96], Or.inl k96⟩
theorem iND_0 {τ ρ : jx_S} (h : τ.1 0 12 = 0) (k : rf_zero ρ) : iND τ ρ := ⟨h, k.1, k.2.2.1, k.2.2.2.1, k.2.2.2.2.1⟩
theorem call_feed {τ ρ : jx_S} (h : IV2 τ ρ) (x1 : Int32) (x2 : Int64) : (∃ r τ' ρ', p_cl_feed x1 x2 τ = some (r, τ') ∧ p_r_feed x1 x2 ρ = some (r, ρ') ∧ ρ'.1 106 2 = 0 ∧ IV2 τ' ρ') ∨ ((x1 < 1 ∨ 8 < x1 ∨ ¬ τ.1 0 10 + x1 ≤ 4000) ∧ ∃ ρ', p_r_feed x1 x2 ρ = some (0, ρ') ∧ ρ'.1 106 2 = 1 ∧ IV2 τ ρ') := by
  obtain ⟨T, z, g, ⟨⟨a1, a2, a3, a4, a5⟩, b, c⟩, h2, h3, h4⟩ := id h
  by_cases hx : x1 < 1 ∨ 8 < x1 ∨ ¬ τ.1 0 10 + x1 ≤ 4000
  · refine Or.inr ⟨hx, jx_i ρ 106 2 1, q_r_feed_no ρ x1 x2 (by rw [a5]; rw [a4] at hx; exact hx), by rw [s_i_eq, u_eq rfl], IV2_2 h⟩
  · left
    have h1 : ¬ x1 < 1 := fun q => hx (Or.inl q)
    have h8 : ¬ 8 < x1 := fun q => hx (Or.inr (Or.inl q))
    have h40 : τ.1 0 10 + x1 ≤ 4000 := Classical.byContradiction (fun q => hx (Or.inr (Or.inr q)))
    obtain ⟨n, n1, n2, rfl⟩ := sml h1 h8
    have hzn : z + n ≤ 4000 := by
      rw [a4, nI_add] at h40
      exact Classical.byContradiction (fun q => (nI_ge (show 4000 < z + n by omega) (by omega) : ¬ nI (z + n) ≤ nI 4000) h40)
    obtain ⟨τ', p1, p2, p3, p4, p5, p6⟩ := q_cl_feed τ z n x2 a4 n1 n2 hzn
    obtain ⟨ρ', q1, q2, q3, q4, q5⟩ := q_r_feed ρ z n x2 a5 n1 n2 hzn
    have hf := f_cl_feed τ _ _ τ jFr.rfl _ p1
    refine ⟨_, τ', ρ', p1, q1, q3, fun j => if z ≤ j ∧ j < z + n then (ocA x2 (nI (j - z))).toNatClampNeg else T j, z + n, 0, ⟨⟨hzn, fun j hj => ?_, fun j hj => ?_, p2, q2⟩, fun k k1 k2 => ?_, ?_, ?_⟩, ⟨by omega, p4, q5.2.2.2.2.2.1, fun i hi => by omega⟩, iTD_0 p6 q5, Or.inl (iND_0 p3 q5)⟩
    · rw [p5]
      unfold fd_row
      by_cases y : z ≤ j ∧ j < z + n
      · obtain ⟨m, m1, m2⟩ := oc_in x2 (nI (j - z))
        simp only [if_pos y]
        rw [m2, nI_clamp (show m < 2 ^ 31 by omega)]
        exact ⟨m1, rfl⟩
      · simp only [if_neg y]
        exact a2 j (by omega)
    · rw [q4]
      unfold fd_row
      by_cases y : z ≤ j ∧ j < z + n
      · obtain ⟨m, m1, m2⟩ := oc_in x2 (nI (j - z))
        simp only [if_pos y]
        rw [m2, nI_clamp (show m < 2 ^ 31 by omega)]
        exact ⟨m1, rfl⟩
      · simp only [if_neg y]
        exact a3 j (by omega)
    · rw [(hf 21 k (by decide) (by simp [fs_cl_feed])).2]; exact b k k1 k2
    · rw [(hf 29 0 (by decide) (by decide)).1]; exact c.1
    · rw [(hf 23 0 (by decide) (by decide)).1]; exact c.2
theorem call_wipe {τ ρ : jx_S} (h : IV2 τ ρ) : ∃ r τ' ρ', p_cl_wipe τ = some (r, τ') ∧ p_r_wipe ρ = some (r, ρ') ∧ IV2 τ' ρ' := by
  obtain ⟨T, z, g, ⟨⟨a1, a2, a3, a4, a5⟩, b, c⟩, h2, h3, h4⟩ := id h
  obtain ⟨ρ', q1, q2, q3, q4, q5⟩ := q_r_wipe ρ
  have hf := f_cl_wipe τ τ jFr.rfl _ (q_cl_wipe τ)
  refine ⟨τ.1 0 10, _, ρ', q_cl_wipe τ, by rw [q1, a4, a5], T, 0, 0, ⟨⟨by omega, fun j hj => by omega, fun j hj => by omega, rfl, q2⟩, fun k k1 k2 => ?_, ?_, ?_⟩, ⟨by omega, rfl, q4.2.2.2.2.2.1, fun i hi => by omega⟩, iTD_0 (fun j hj => ?_) q4, Or.inl (iND_0 rfl q4)⟩
  · rw [(hf 21 k (by decide) (by simp [fs_cl_wipe])).2]; exact b k k1 k2
  · rw [(hf 29 0 (by decide) (by decide)).1]; exact c.1
  · rw [(hf 23 0 (by decide) (by decide)).1]; exact c.2
  · show (jI_clr 10 (jx_i (jx_i (jx_i τ 0 10 0) 0 12 0) 0 11 0) 71).1 71 j = 0
    rw [s_c_eq]; exact if_pos hj
theorem call_arg {τ ρ : jx_S} (h : IV2 τ ρ) (v : Int32) : (∃ r τ' ρ', p_cl_argument v τ = some (r, τ') ∧ p_r_argument v ρ = some (r, ρ') ∧ ρ'.1 106 2 = 0 ∧ IV2 τ' ρ') ∨ (¬ τ.1 0 11 < 8 ∧ ∃ ρ', p_r_argument v ρ = some (0, ρ') ∧ ρ'.1 106 2 = 1 ∧ IV2 τ ρ') := by
  obtain ⟨T, z, g, h1, ⟨g8, g1, g2, g3⟩, h3, h4⟩ := id h
  by_cases hg : g < 8
  · left
    obtain ⟨τ', p1, p2, p3⟩ := q_cl_argument τ g v g1 hg
    obtain ⟨ρ', q1, q2, q3, q4⟩ := q_r_argument ρ g v g2 hg
    have hf := f_cl_argument τ _ τ jFr.rfl _ p1
    have hr := f_r_argument ρ _ ρ jFr.rfl _ q1
    refine ⟨_, τ', ρ', p1, q1, q2, T, z, g + 1, iTX_move h1 (fun j => (hf 11 j (by decide) (by simp [fs_cl_argument])).1) (hf 0 10 (by decide) (by decide)).1 (fun j => (hf 21 j (by decide) (by simp [fs_cl_argument])).2) ⟨(hf 29 0 (by decide) (by decide)).1, (hf 23 0 (by decide) (by decide)).1⟩ (fun j => (hr 107 j (by decide) (by simp [fs_r_argument])).1) (hr 106 1 (by decide) (by decide)).1, ⟨by omega, p2, q3, fun i hi => ?_⟩, iTD_move h3 (fun j => (hf 71 j (by decide) (by simp [fs_cl_argument])).1) (fun j => (hf 73 j (by decide) (by simp [fs_cl_argument])).1) (fun j hj => (hr 106 j (by decide) (by revert hj; revert j; decide)).1) (fun j => (hr 153 j (by decide) (by simp [fs_r_argument])).1) (fun j => (hr 167 j (by decide) (by simp [fs_r_argument])).1), ?_⟩
    · rw [p3, q4]
      by_cases y : i = g
      · rw [u_eq y, u_eq y]
      · rw [u_ne y, u_ne y]; exact g3 i (by omega)
    · rcases h4 with h4 | ⟨a, τ0, τ1, ρ1, v', b1, b2, b3, b4, b5⟩
      · exact Or.inl (iND_move h4 (hf 0 12 (by decide) (by decide)).1 (fun j hj => (hr 106 j (by decide) (by revert hj; revert j; decide)).1))
      · refine Or.inr ⟨(hf 0 12 (by decide) (by decide)).1.trans a, τ0, τ1, ρ1, v', b1, b2, fun k j q1 q2 q3 => ?_, fun k j q1 q0 q2 q3 => ?_, b5⟩
        · have u := hf k j (fun q => q2 (by simp only [ms_cl_argument, List.mem_cons, List.not_mem_nil, or_false] at q; rw [q]; decide)) (fun q => q3 (by simp only [fs_cl_argument, List.mem_cons, List.not_mem_nil, or_false] at q; rw [q]; decide))
          have w := b3 k j q1 q2 q3
          exact ⟨u.1.trans w.1, u.2.trans w.2⟩
        · have u := hr k j (fun q => q2 (by simp only [ms_r_argument, List.mem_cons, List.not_mem_nil, or_false] at q; rw [q]; decide)) (fun q => q3 (by
            simp only [fs_r_argument, List.mem_cons, List.not_mem_nil, or_false] at q
            rcases q with q | q
            · rw [q]; decide
            · rw [q]; decide))
          have w := b4 k j q1 q0 q2 q3
          exact ⟨u.1.trans w.1, u.2.trans w.2⟩
  · right
    have : g = 8 := by omega
    subst this
    exact ⟨by rw [g1]; decide, jx_i ρ 106 2 1, q_r_argument_no ρ v g2, by rw [s_i_eq, u_eq rfl], IV2_2 h⟩
