set_option maxRecDepth 100000 in
theorem jt_m_31 : jt_mR 152 5 = true := by decide +kernel
set_option maxRecDepth 100000 in
theorem jt_m_32 : jt_mR 157 5 = true := by decide +kernel
set_option maxRecDepth 100000 in
theorem jt_m_33 : jt_mR 162 5 = true := by decide +kernel
set_option maxRecDepth 100000 in
theorem jt_m_34 : jt_mR 167 2 = true := by decide +kernel
set_option maxRecDepth 100000 in
theorem jt_mw_169 : jt_mw 169 = true := by decide +kernel
set_option maxRecDepth 100000 in
theorem jt_mv_169 : jt_mv 169 = true := by decide +kernel
set_option maxRecDepth 100000 in
theorem jt_mw_170 : jt_mw 170 = true := by decide +kernel
set_option maxRecDepth 100000 in
theorem jt_mv_170 : jt_mv 170 = true := by decide +kernel
theorem jt_mR_two {a : Nat} (h1 : jt_mw a = true) (h2 : jt_mv a = true) (h3 : jt_mw (a + 1) = true) (h4 : jt_mv (a + 1) = true) : jt_mR a 2 = true := by
  unfold jt_mR
  rw [List.all_eq_true]
  intro x hx
  rw [List.mem_range] at hx
  rcases (show x = 0 ∨ x = 1 by omega) with rfl | rfl
  · rw [Nat.add_zero, h1, h2]; rfl
  · rw [h3, h4]; rfl
theorem jt_m_35 : jt_mR 169 2 = true := jt_mR_two jt_mw_169 jt_mv_169 jt_mw_170 jt_mv_170
set_option maxRecDepth 100000 in
theorem jt_m_36 : jt_mR 171 4 = true := by decide +kernel
