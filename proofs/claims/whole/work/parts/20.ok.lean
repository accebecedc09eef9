/-! The tables are right, put together. -/
theorem jt_okR_use {a n : Nat} (h : jt_okR a n = true) {mi pc : Nat} (h1 : a ≤ mi) (h2 : mi < a + n) (hp : pc < jt_ln mi) : jt_ok mi pc = true := by
  have h3 := List.all_eq_true.mp h (mi - a) (List.mem_range.mpr (by omega))
  rw [show a + (mi - a) = mi by omega] at h3
  exact List.all_eq_true.mp h3 pc (List.mem_range.mpr hp)
theorem jt_mR_use {a n : Nat} (h : jt_mR a n = true) {mi : Nat} (h1 : a ≤ mi) (h2 : mi < a + n) : jt_mw mi = true ∧ jt_mv mi = true := by
  have h3 := List.all_eq_true.mp h (mi - a) (List.mem_range.mpr (by omega))
  rw [show a + (mi - a) = mi by omega] at h3
  exact Bool.and_eq_true_iff.mp h3
theorem jt_okAll {mi pc : Nat} (hm : mi < 233) (hp : pc < jt_ln mi) : jt_ok mi pc = true := by
  rcases Nat.lt_or_ge mi 6 with h0 | h0
  · exact jt_okR_use jt_ok_0 (by omega) (by omega) hp
  rcases Nat.lt_or_ge mi 12 with h1 | h1
  · exact jt_okR_use jt_ok_1 (by omega) (by omega) hp
  rcases Nat.lt_or_ge mi 18 with h2 | h2
  · exact jt_okR_use jt_ok_2 (by omega) (by omega) hp
  rcases Nat.lt_or_ge mi 24 with h3 | h3
  · exact jt_okR_use jt_ok_3 (by omega) (by omega) hp
  rcases Nat.lt_or_ge mi 30 with h4 | h4
  · exact jt_okR_use jt_ok_4 (by omega) (by omega) hp
  rcases Nat.lt_or_ge mi 36 with h5 | h5
  · exact jt_okR_use jt_ok_5 (by omega) (by omega) hp
  rcases Nat.lt_or_ge mi 42 with h6 | h6
  · exact jt_okR_use jt_ok_6 (by omega) (by omega) hp
  rcases Nat.lt_or_ge mi 48 with h7 | h7
  · exact jt_okR_use jt_ok_7 (by omega) (by omega) hp
  rcases Nat.lt_or_ge mi 54 with h8 | h8
  · exact jt_okR_use jt_ok_8 (by omega) (by omega) hp
  rcases Nat.lt_or_ge mi 60 with h9 | h9
  · exact jt_okR_use jt_ok_9 (by omega) (by omega) hp
  rcases Nat.lt_or_ge mi 66 with h10 | h10
  · exact jt_okR_use jt_ok_10 (by omega) (by omega) hp
  rcases Nat.lt_or_ge mi 71 with h11 | h11
  · exact jt_okR_use jt_ok_11 (by omega) (by omega) hp
  rcases Nat.lt_or_ge mi 74 with h12 | h12
  · exact jt_okR_use jt_ok_12 (by omega) (by omega) hp
  rcases Nat.lt_or_ge mi 80 with h13 | h13
  · exact jt_okR_use jt_ok_13 (by omega) (by omega) hp
  rcases Nat.lt_or_ge mi 86 with h14 | h14
  · exact jt_okR_use jt_ok_14 (by omega) (by omega) hp
  rcases Nat.lt_or_ge mi 92 with h15 | h15
  · exact jt_okR_use jt_ok_15 (by omega) (by omega) hp
  rcases Nat.lt_or_ge mi 97 with h16 | h16
  · exact jt_okR_use jt_ok_16 (by omega) (by omega) hp
  rcases Nat.lt_or_ge mi 103 with h17 | h17
  · exact jt_okR_use jt_ok_17 (by omega) (by omega) hp
  rcases Nat.lt_or_ge mi 106 with h18 | h18
  · exact jt_okR_use jt_ok_18 (by omega) (by omega) hp
  rcases Nat.lt_or_ge mi 112 with h19 | h19
  · exact jt_okR_use jt_ok_19 (by omega) (by omega) hp
  rcases Nat.lt_or_ge mi 117 with h20 | h20
  · exact jt_okR_use jt_ok_20 (by omega) (by omega) hp
  rcases Nat.lt_or_ge mi 122 with h21 | h21
  · exact jt_okR_use jt_ok_21 (by omega) (by omega) hp
  rcases Nat.lt_or_ge mi 124 with h22 | h22
  · exact jt_okR_use jt_ok_22 (by omega) (by omega) hp
  rcases Nat.lt_or_ge mi 127 with h23 | h23
  · exact jt_okR_use jt_ok_23 (by omega) (by omega) hp
  rcases Nat.lt_or_ge mi 133 with h24 | h24
  · exact jt_okR_use jt_ok_24 (by omega) (by omega) hp
  rcases Nat.lt_or_ge mi 139 with h25 | h25
  · exact jt_okR_use jt_ok_25 (by omega) (by omega) hp
  rcases Nat.lt_or_ge mi 145 with h26 | h26
  · exact jt_okR_use jt_ok_26 (by omega) (by omega) hp
  rcases Nat.lt_or_ge mi 151 with h27 | h27
  · exact jt_okR_use jt_ok_27 (by omega) (by omega) hp
  rcases Nat.lt_or_ge mi 153 with h28 | h28
  · exact jt_okR_use jt_ok_28 (by omega) (by omega) hp
  rcases Nat.lt_or_ge mi 157 with h29 | h29
  · exact jt_okR_use jt_ok_29 (by omega) (by omega) hp
  rcases Nat.lt_or_ge mi 163 with h30 | h30
  · exact jt_okR_use jt_ok_30 (by omega) (by omega) hp
  rcases Nat.lt_or_ge mi 167 with h31 | h31
  · exact jt_okR_use jt_ok_31 (by omega) (by omega) hp
  rcases Nat.lt_or_ge mi 169 with h32 | h32
  · exact jt_okR_use jt_ok_32 (by omega) (by omega) hp
  rcases Nat.lt_or_ge mi 170 with h33 | h33
  · exact jt_okR_use jt_ok_33 (by omega) (by omega) hp
  rcases Nat.lt_or_ge mi 173 with h34 | h34
  · exact jt_okR_use jt_ok_34 (by omega) (by omega) hp
  rcases Nat.lt_or_ge mi 175 with h35 | h35
  · exact jt_okR_use jt_ok_35 (by omega) (by omega) hp
  rcases Nat.lt_or_ge mi 180 with h36 | h36
  · exact jt_okR_use jt_ok_36 (by omega) (by omega) hp
  rcases Nat.lt_or_ge mi 183 with h37 | h37
  · exact jt_okR_use jt_ok_37 (by omega) (by omega) hp
  rcases Nat.lt_or_ge mi 187 with h38 | h38
  · exact jt_okR_use jt_ok_38 (by omega) (by omega) hp
  rcases Nat.lt_or_ge mi 192 with h39 | h39
  · exact jt_okR_use jt_ok_39 (by omega) (by omega) hp
  rcases Nat.lt_or_ge mi 196 with h40 | h40
  · exact jt_okR_use jt_ok_40 (by omega) (by omega) hp
  rcases Nat.lt_or_ge mi 198 with h41 | h41
  · exact jt_okR_use jt_ok_41 (by omega) (by omega) hp
  rcases Nat.lt_or_ge mi 203 with h42 | h42
  · exact jt_okR_use jt_ok_42 (by omega) (by omega) hp
  rcases Nat.lt_or_ge mi 208 with h43 | h43
  · exact jt_okR_use jt_ok_43 (by omega) (by omega) hp
  rcases Nat.lt_or_ge mi 213 with h44 | h44
  · exact jt_okR_use jt_ok_44 (by omega) (by omega) hp
  rcases Nat.lt_or_ge mi 215 with h45 | h45
  · exact jt_okR_use jt_ok_45 (by omega) (by omega) hp
  rcases Nat.lt_or_ge mi 219 with h46 | h46
  · exact jt_okR_use jt_ok_46 (by omega) (by omega) hp
  rcases Nat.lt_or_ge mi 220 with h47 | h47
  · exact jt_okR_use jt_ok_47 (by omega) (by omega) hp
  rcases Nat.lt_or_ge mi 222 with h48 | h48
  · exact jt_okR_use jt_ok_48 (by omega) (by omega) hp
  rcases Nat.lt_or_ge mi 224 with h49 | h49
  · exact jt_okR_use jt_ok_49 (by omega) (by omega) hp
  rcases Nat.lt_or_ge mi 228 with h50 | h50
  · exact jt_okR_use jt_ok_50 (by omega) (by omega) hp
  rcases Nat.lt_or_ge mi 231 with h51 | h51
  · exact jt_okR_use jt_ok_51 (by omega) (by omega) hp
  rcases Nat.lt_or_ge mi 233 with h52 | h52
  · exact jt_okR_use jt_ok_52 (by omega) (by omega) hp
  omega
theorem jt_mAll {mi : Nat} (hm : mi < 233) : jt_mw mi = true ∧ jt_mv mi = true := by
  rcases Nat.lt_or_ge mi 5 with h0 | h0
  · exact jt_mR_use jt_m_0 (by omega) (by omega)
  rcases Nat.lt_or_ge mi 10 with h1 | h1
  · exact jt_mR_use jt_m_1 (by omega) (by omega)
  rcases Nat.lt_or_ge mi 15 with h2 | h2
  · exact jt_mR_use jt_m_2 (by omega) (by omega)
  rcases Nat.lt_or_ge mi 20 with h3 | h3
  · exact jt_mR_use jt_m_3 (by omega) (by omega)
  rcases Nat.lt_or_ge mi 25 with h4 | h4
  · exact jt_mR_use jt_m_4 (by omega) (by omega)
  rcases Nat.lt_or_ge mi 30 with h5 | h5
  · exact jt_mR_use jt_m_5 (by omega) (by omega)
  rcases Nat.lt_or_ge mi 35 with h6 | h6
  · exact jt_mR_use jt_m_6 (by omega) (by omega)
  rcases Nat.lt_or_ge mi 40 with h7 | h7
  · exact jt_mR_use jt_m_7 (by omega) (by omega)
  rcases Nat.lt_or_ge mi 45 with h8 | h8
  · exact jt_mR_use jt_m_8 (by omega) (by omega)
  rcases Nat.lt_or_ge mi 50 with h9 | h9
  · exact jt_mR_use jt_m_9 (by omega) (by omega)
  rcases Nat.lt_or_ge mi 55 with h10 | h10
  · exact jt_mR_use jt_m_10 (by omega) (by omega)
  rcases Nat.lt_or_ge mi 60 with h11 | h11
  · exact jt_mR_use jt_m_11 (by omega) (by omega)
  rcases Nat.lt_or_ge mi 65 with h12 | h12
  · exact jt_mR_use jt_m_12 (by omega) (by omega)
  rcases Nat.lt_or_ge mi 70 with h13 | h13
  · exact jt_mR_use jt_m_13 (by omega) (by omega)
  rcases Nat.lt_or_ge mi 74 with h14 | h14
  · exact jt_mR_use jt_m_14 (by omega) (by omega)
  rcases Nat.lt_or_ge mi 79 with h15 | h15
  · exact jt_mR_use jt_m_15 (by omega) (by omega)
  rcases Nat.lt_or_ge mi 84 with h16 | h16
  · exact jt_mR_use jt_m_16 (by omega) (by omega)
  rcases Nat.lt_or_ge mi 89 with h17 | h17
  · exact jt_mR_use jt_m_17 (by omega) (by omega)
  rcases Nat.lt_or_ge mi 94 with h18 | h18
  · exact jt_mR_use jt_m_18 (by omega) (by omega)
  rcases Nat.lt_or_ge mi 98 with h19 | h19
  · exact jt_mR_use jt_m_19 (by omega) (by omega)
  rcases Nat.lt_or_ge mi 103 with h20 | h20
  · exact jt_mR_use jt_m_20 (by omega) (by omega)
  rcases Nat.lt_or_ge mi 108 with h21 | h21
  · exact jt_mR_use jt_m_21 (by omega) (by omega)
  rcases Nat.lt_or_ge mi 113 with h22 | h22
  · exact jt_mR_use jt_m_22 (by omega) (by omega)
  rcases Nat.lt_or_ge mi 118 with h23 | h23
  · exact jt_mR_use jt_m_23 (by omega) (by omega)
  rcases Nat.lt_or_ge mi 123 with h24 | h24
  · exact jt_mR_use jt_m_24 (by omega) (by omega)
  rcases Nat.lt_or_ge mi 127 with h25 | h25
  · exact jt_mR_use jt_m_25 (by omega) (by omega)
  rcases Nat.lt_or_ge mi 132 with h26 | h26
  · exact jt_mR_use jt_m_26 (by omega) (by omega)
  rcases Nat.lt_or_ge mi 137 with h27 | h27
  · exact jt_mR_use jt_m_27 (by omega) (by omega)
  rcases Nat.lt_or_ge mi 142 with h28 | h28
  · exact jt_mR_use jt_m_28 (by omega) (by omega)
  rcases Nat.lt_or_ge mi 147 with h29 | h29
  · exact jt_mR_use jt_m_29 (by omega) (by omega)
  rcases Nat.lt_or_ge mi 152 with h30 | h30
  · exact jt_mR_use jt_m_30 (by omega) (by omega)
  rcases Nat.lt_or_ge mi 157 with h31 | h31
  · exact jt_mR_use jt_m_31 (by omega) (by omega)
  rcases Nat.lt_or_ge mi 162 with h32 | h32
  · exact jt_mR_use jt_m_32 (by omega) (by omega)
  rcases Nat.lt_or_ge mi 167 with h33 | h33
  · exact jt_mR_use jt_m_33 (by omega) (by omega)
  rcases Nat.lt_or_ge mi 169 with h34 | h34
  · exact jt_mR_use jt_m_34 (by omega) (by omega)
  rcases Nat.lt_or_ge mi 171 with h35 | h35
  · exact jt_mR_use jt_m_35 (by omega) (by omega)
  rcases Nat.lt_or_ge mi 175 with h36 | h36
  · exact jt_mR_use jt_m_36 (by omega) (by omega)
  rcases Nat.lt_or_ge mi 180 with h37 | h37
  · exact jt_mR_use jt_m_37 (by omega) (by omega)
  rcases Nat.lt_or_ge mi 184 with h38 | h38
  · exact jt_mR_use jt_m_38 (by omega) (by omega)
  rcases Nat.lt_or_ge mi 189 with h39 | h39
  · exact jt_mR_use jt_m_39 (by omega) (by omega)
  rcases Nat.lt_or_ge mi 194 with h40 | h40
  · exact jt_mR_use jt_m_40 (by omega) (by omega)
  rcases Nat.lt_or_ge mi 198 with h41 | h41
  · exact jt_mR_use jt_m_41 (by omega) (by omega)
  rcases Nat.lt_or_ge mi 203 with h42 | h42
  · exact jt_mR_use jt_m_42 (by omega) (by omega)
  rcases Nat.lt_or_ge mi 208 with h43 | h43
  · exact jt_mR_use jt_m_43 (by omega) (by omega)
  rcases Nat.lt_or_ge mi 213 with h44 | h44
  · exact jt_mR_use jt_m_44 (by omega) (by omega)
  rcases Nat.lt_or_ge mi 218 with h45 | h45
  · exact jt_mR_use jt_m_45 (by omega) (by omega)
  rcases Nat.lt_or_ge mi 221 with h46 | h46
  · exact jt_mR_use jt_m_46 (by omega) (by omega)
  rcases Nat.lt_or_ge mi 225 with h47 | h47
  · exact jt_mR_use jt_m_47 (by omega) (by omega)
  rcases Nat.lt_or_ge mi 230 with h48 | h48
  · exact jt_mR_use jt_m_48 (by omega) (by omega)
  rcases Nat.lt_or_ge mi 233 with h49 | h49
  · exact jt_mR_use jt_m_49 (by omega) (by omega)
  omega
theorem jt_C_inv {mi pc : Nat} {i : Instr} {a1 a2 : Nat} (h : jt_C mi pc = some (i, a1, a2)) : mi < 233 ∧ pc < jt_ln mi ∧ jt_C0 mi pc = some (i, a1, a2) := by
  unfold jt_C at h
  obtain ⟨h1, h2⟩ := jx_ite_inv h
  exact ⟨h1.1, h1.2, h2⟩
theorem jt_C_ok {mi pc : Nat} {i : Instr} {a1 a2 : Nat} (h : jt_C mi pc = some (i, a1, a2)) : (∃ len, decode (jt_by mi) pc = .ok (i, len) ∧ (jx_len i = 0 ∨ jx_len i = len)) ∧ (jx_sto i = true → a1 ≤ jt_mx mi) ∧ jt_ok1 mi a1 a2 i = true := by
  obtain ⟨h1, h2, h3⟩ := jt_C_inv h
  have h4 := jt_okAll h1 h2
  unfold jt_ok at h4
  rw [h3] at h4
  simp only [Bool.and_eq_true] at h4
  obtain ⟨⟨h5, h6⟩, h7⟩ := h4
  refine ⟨?_, ?_, h7⟩
  · split at h5
    · rename_i j len hd
      simp only [Bool.and_eq_true, decide_eq_true_eq, Bool.or_eq_true, beq_iff_eq] at h5
      obtain ⟨rfl, h8⟩ := h5
      exact ⟨len, hd, h8⟩
    · cases h5
  · intro hs
    rw [hs] at h6
    simpa using h6
theorem jt_getD_lt {α : Type} {l : List (List α)} {o : Nat} {e : α} (h : e ∈ l.getD o []) : o < l.length := by
  rcases Nat.lt_or_ge o l.length with q | q
  · exact q
  · rw [List.getD_eq_getElem?_getD, List.getElem?_eq_none q] at h; cases h
theorem jt_cl_get {ci : Nat} (h : ci < 13) : jt_cl[ci]? = some (jt_cw ci) := by
  have hl : ci < jt_cl.length := h
  unfold jt_cw
  rw [List.getD_eq_getElem?_getD, List.getElem?_eq_getElem hl]
  rfl
theorem jt_ws_in {ci : Nat} (h : ci < 13) : ∀ w ∈ u_ws (jt_cw ci).1 (jt_cw ci).2.1 (jt_cw ci).2.2, w ∈ jt_Ts := by
  intro w hw
  obtain ⟨k, hk, rfl⟩ := List.mem_map.mp hw
  have h1 := List.all_eq_true.mp jt_fwk ci (List.mem_range.mpr h)
  have h2 := List.all_eq_true.mp h1 k hk
  exact jt_in2 h2
theorem jt_fl_use {o ix ci k : Nat} (h : ((jt_fl o).any fun e => e.1 == ix && e.2.1 == ci && e.2.2.1 == k) = true) : ci < 13 ∧ k < (jt_cw ci).2.2 ∧ Cond.fieldLink (jt_cn o) ix ((jt_cw ci).2.1 k).1 ((jt_cw ci).2.1 k).2.1 ((jt_cw ci).2.1 k).2.2.1 ∈ jt_Ts := by
  obtain ⟨e, he, h2⟩ := List.any_eq_true.mp h
  simp only [Bool.and_eq_true, beq_iff_eq] at h2
  obtain ⟨⟨rfl, rfl⟩, rfl⟩ := h2
  have ho : o < 13 := jt_getD_lt he
  have h3 := List.all_eq_true.mp (List.all_eq_true.mp jt_flk o (List.mem_range.mpr ho)) e he
  rw [Bool.and_eq_true, Bool.and_eq_true] at h3
  obtain ⟨⟨h4, h5⟩, h6⟩ := h3
  exact ⟨of_decide_eq_true h5, of_decide_eq_true h6, jt_in2 h4⟩
theorem jt_ml_use {o ix mj : Nat} (h : ((jt_ml o).any fun e => e.1 == ix && e.2.1 == mj) = true) : jt_usd mj = true ∧ Cond.methodLink (jt_cn o) ix (jt_yy mj) ∈ jt_Ts := by
  obtain ⟨e, he, h2⟩ := List.any_eq_true.mp h
  simp only [Bool.and_eq_true, beq_iff_eq] at h2
  obtain ⟨rfl, rfl⟩ := h2
  have ho : o < 13 := jt_getD_lt he
  have h3 := List.all_eq_true.mp (List.all_eq_true.mp jt_mlk o (List.mem_range.mpr ho)) e he
  exact ⟨List.any_eq_true.mpr ⟨o, List.mem_range.mpr ho, List.any_eq_true.mpr ⟨e, he, by simp⟩⟩, jt_in2 h3⟩
theorem jt_pl_use {o ix mj : Nat} (h : (jt_pl.any fun e => e.1 == o && e.2.1 == ix && e.2.2.1 == mj) = true) : Cond.methodLink (jt_cn o) ix (jt_pq mj) ∈ jt_Ts := by
  obtain ⟨e, he, h2⟩ := List.any_eq_true.mp h
  simp only [Bool.and_eq_true, beq_iff_eq] at h2
  obtain ⟨⟨rfl, rfl⟩, rfl⟩ := h2
  exact jt_in2 (List.all_eq_true.mp jt_plk e he)
theorem jt_mok {mj : Nat} (h : mj < 233) : jx_mok jt_M jt_cl jt_Ts jt_by jt_ow jt_yy jt_mx jt_rt mj := by
  have h1 := (jt_mAll h).1
  unfold jt_mw at h1
  rw [Bool.and_eq_true, Bool.and_eq_true, Bool.and_eq_true, Bool.and_eq_true, Bool.and_eq_true, Bool.and_eq_true] at h1
  obtain ⟨⟨⟨⟨⟨⟨h2, h3⟩, h4⟩, h5⟩, h6⟩, h7⟩, h8⟩ := h1
  exact ⟨jt_in2 h2, jt_in2 h3, rfl, h4, of_decide_eq_true h5, of_decide_eq_true h6, of_decide_eq_true h7, of_decide_eq_true h8⟩
theorem jt_con_use {w : Cond} (h : jt_con w = true) : w ∈ jt_Ts := by
  unfold jt_con at h
  rw [Bool.and_eq_true] at h
  obtain ⟨c, hc, h2⟩ := List.any_eq_true.mp h.1
  have e : c = w := of_decide_eq_true h2
  subst e
  exact List.mem_filter.mpr ⟨hc, h.2⟩
theorem jt_nmd_use {ci a n : Nat} (h : jt_nmd ci a n = true) {x y : Nat} (h1 : a ≤ x) (h2 : x < a + n) (hy : y < x) : ((jt_cw ci).2.1 x).2.1 ≠ ((jt_cw ci).2.1 y).2.1 := by
  have h3 := List.all_eq_true.mp h (x - a) (List.mem_range.mpr (by omega))
  rw [show a + (x - a) = x by omega] at h3
  exact of_decide_eq_true (List.all_eq_true.mp h3 y (List.mem_range.mpr hy))
theorem jt_nm {ci : Nat} (h : ci < 13) {x y : Nat} (hx : x < (jt_cw ci).2.2) (hy : y < x) : ((jt_cw ci).2.1 x).2.1 ≠ ((jt_cw ci).2.1 y).2.1 := by
  rcases Nat.lt_or_ge ci 12 with h1 | h1
  · have h2 := List.all_eq_true.mp jt_nmk ci (List.mem_range.mpr h1)
    exact jt_nmd_use h2 (Nat.zero_le _) (by omega) hy
  · have e : ci = 12 := by omega
    subst e
    have hx : x < 102 := hx
    rcases Nat.lt_or_ge x 35 with h3 | h3
    · exact jt_nmd_use jt_nmM0 (by omega) (by omega) hy
    rcases Nat.lt_or_ge x 50 with h4 | h4
    · exact jt_nmd_use jt_nmM1 (by omega) (by omega) hy
    rcases Nat.lt_or_ge x 65 with h5 | h5
    · exact jt_nmd_use jt_nmM2 (by omega) (by omega) hy
    rcases Nat.lt_or_ge x 75 with h6 | h6
    · exact jt_nmd_use jt_nmM3 (by omega) (by omega) hy
    rcases Nat.lt_or_ge x 85 with h7 | h7
    · exact jt_nmd_use jt_nmM4 (by omega) (by omega) hy
    rcases Nat.lt_or_ge x 94 with h8 | h8
    · exact jt_nmd_use jt_nmM5 (by omega) (by omega) hy
    rcases Nat.lt_or_ge x 102 with h9 | h9
    · exact jt_nmd_use jt_nmM6 (by omega) (by omega) hy
    omega
theorem jt_Ok : jx_Ok jt_C jt_O jt_N jt_M jt_cl jt_Ts jt_by jt_ow jt_yy jt_mx jt_rt := by
  refine ⟨fun mi pc i a1 a2 h => (jt_C_ok h).1, fun mi pc i a1 a2 h => (jt_C_ok h).2.1, ?_, ?_, ?_, ?_, ?_, ?_, ?_, ?_, ?_, jt_good, ?_, ?_, ?_, ?_, ?_, ?_⟩
  · rintro mi pc ix a1 a2 (h | h)
    · exact jt_con_use (jt_C_ok h).2.2
    · exact jt_con_use (jt_C_ok h).2.2
  · intro mi pc ix a1 a2 h
    exact jt_con_use (jt_C_ok h).2.2
  · intro mi pc ix ci k h
    obtain ⟨h1, h2, h3⟩ := jt_fl_use (jt_C_ok h).2.2
    exact ⟨_, _, _, jt_cl_get h1, h2, jt_ws_in h1, h3⟩
  · intro mi pc ix ci k h
    have h0 := (jt_C_ok h).2.2
    have h0 := Bool.and_eq_true_iff.mp h0
    obtain ⟨h1, h2, h3⟩ := jt_fl_use h0.1
    refine ⟨_, _, _, jt_tyc ci, jt_cl_get h1, h2, jt_ws_in h1, h3, ?_, ?_, ?_, ?_⟩
    · intro j hj
      exact of_decide_eq_true (List.all_eq_true.mp (List.all_eq_true.mp jt_tyk ci (List.mem_range.mpr h1)) j (List.mem_range.mpr hj))
    · intro a ha b hb hab
      rcases Nat.lt_or_gt_of_ne hab with q | q
      · exact fun e => jt_nm h1 hb q e.symm
      · exact jt_nm h1 ha q
    · have := h0.2
      rw [Bool.not_eq_true'] at this
      exact this
    · intro b kds kd hb ho hj hk
      have h4 := List.all_eq_true.mp jt_kdk b (List.mem_range.mpr hb)
      rw [ho] at h4
      have hl : k < kds.length := (List.getElem?_eq_some_iff.mp hj).1
      have h5 := List.all_eq_true.mp h4 k (List.mem_range.mpr hl)
      have hg : kds.getD k 0 = kd := by rw [List.getD_eq_getElem?_getD, hj]; rfl
      rw [hg, Bool.or_eq_true] at h5
      rcases h5 with h5 | h5
      · have := of_decide_eq_true h5; omega
      · have h6 := of_decide_eq_true h5
        rw [← h6.1]
        exact of_decide_eq_true (List.all_eq_true.mp (List.all_eq_true.mp jt_tyk ci (List.mem_range.mpr h1)) k (List.mem_range.mpr h2))
  · intro mi pc ix mj a2 h hM
    have h0 := Bool.and_eq_true_iff.mp (jt_C_ok h).2.2
    obtain ⟨h1, h2⟩ := jt_ml_use h0.1
    have h3 : mj < 233 := of_decide_eq_true h0.2
    have h4 := (jt_mAll h3).2
    unfold jt_mv at h4
    rw [if_neg (by rw [hM]; decide), h1] at h4
    simp only [Bool.not_true, Bool.false_or, Bool.and_eq_true] at h4
    obtain ⟨⟨⟨h5, h6⟩, h7⟩, h8⟩ := h4
    refine ⟨h2, jt_in2 (by rw [Bool.and_eq_true]; exact h5), jt_in2 (by rw [Bool.and_eq_true]; exact h6), jt_mok h3, (jt_cw (jt_M mj).2.2.1).2.1, (jt_cw (jt_M mj).2.2.1).2.2, ?_⟩
    rw [jt_cl_get (of_decide_eq_true h7), ← of_decide_eq_true h8]
  · intro mi pc ix mj a2 h hl hM
    have h0 := (jt_C_ok h).2.2
    unfold jt_ok1 at h0
    dsimp only at h0
    rw [if_pos hl] at h0
    have h0 := Bool.and_eq_true_iff.mp h0
    obtain ⟨h1, h2⟩ := jt_ml_use h0.1
    have h3 : mj < 233 := of_decide_eq_true h0.2
    have h4 := (jt_mAll h3).2
    unfold jt_mv at h4
    rw [if_pos hM] at h4
    exact ⟨h2, jt_in2 h4, jt_mok h3⟩
  · intro mi pc a1 a2 h
    exact of_decide_eq_true (jt_C_ok h).2.2
  · intro mi pc a1 a2 h
    exact of_decide_eq_true (jt_C_ok h).2.2
  · intro mi pc a1 a2 h
    exact of_decide_eq_true (jt_C_ok h).2.2
  · intro mi pc ix a2 h
    have h0 := (jt_C_ok h).2.2
    unfold jt_ok1 at h0
    dsimp only at h0
    rw [if_neg (by decide)] at h0
    exact ⟨jt_pl_use h0, jt_in2 jt_pw1, jt_in2 jt_pw0, jt_in2 jt_pw2⟩
  · intro mi pc ix a2 h
    have h0 := (jt_C_ok h).2.2
    unfold jt_ok1 at h0
    dsimp only at h0
    rw [if_neg (by decide)] at h0
    exact ⟨jt_pl_use h0, jt_in2 jt_pw3, jt_in2 jt_pw0, jt_in2 jt_pw4⟩
  · intro mi pc n a1 a2 h
    exact of_decide_eq_true (jt_C_ok h).2.2
  · intro mi pc n a1 a2 h
    exact of_decide_eq_true (jt_C_ok h).2.2
  · intro mi pc n a1 a2 h
    exact of_decide_eq_true (jt_C_ok h).2.2
  · intro mi pc n k a1 a2 h
    exact of_decide_eq_true (jt_C_ok h).2.2
