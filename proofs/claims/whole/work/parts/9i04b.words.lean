/-! CONSTRUCTORS, 4b. -/
theorem jc_fwD {mi ix ci k : Nat} (h : mi < 15) (he : (ix, ci, k) ∈ jc_fl mi) : ci < 13 ∧ k < (jt_cw ci).2.2 ∧ Cond.fieldLink (jc_own mi) ix ((jt_cw ci).2.1 k).1 ((jt_cw ci).2.1 k).2.1 ((jt_cw ci).2.1 k).2.2.1 ∈ jt_Ts ∧ ((jt_cw ci).2.1 k).1 = (jt_cw ci).1 := by
  have hb : jc_fw mi = true := by
    by_cases h1 : mi < 12
    · exact List.all_eq_true.mp jc_fwA mi (List.mem_range.mpr h1)
    · rcases (show mi = 12 ∨ mi = 13 ∨ mi = 14 by omega) with rfl | rfl | rfl
      · exact jc_fwB
      · exact jc_fwC.1
      · exact jc_fwC.2
  obtain ⟨j, hj⟩ := List.getElem?_of_mem he
  have hjl : j < (jc_fl mi).length := (List.getElem?_eq_some_iff.mp hj).1
  have := List.all_eq_true.mp hb j (List.mem_range.mpr hjl)
  have hg : (jc_fl mi).getD j (0, 0, 0) = (ix, ci, k) := by rw [List.getD_eq_getElem?_getD, hj]; rfl
  rw [hg] at this
  simp only [Bool.and_eq_true, decide_eq_true_eq] at this
  exact ⟨this.1.1.1, this.1.1.2, jt_in this.1.2 rfl, this.2⟩
