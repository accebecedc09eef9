/-! CONSTRUCTORS, 6b: words of the methods. -/
/-- the words of the methods -/
def jc_mw (mj : Nat) : Bool := decide (Cond.code (jc_yy mj) (jc_by mj) (jc_mx mj) (jc_rt mj) ∈ lw_tbl) && decide (Cond.initialized (jc_yy mj).cls ∈ lw_tbl) && decide (if mj = 13 then Cond.static (jc_yy mj) ∈ lw_tbl else Cond.instanceMethod (jc_yy mj) ∈ lw_tbl)
theorem jc_mwA1 : (List.range 8).all jc_mw = true := by decide +kernel
theorem jc_mwA2 : jc_mw 8 = true ∧ jc_mw 9 = true ∧ jc_mw 10 = true := by decide +kernel
theorem jc_mwA3 : jc_mw 11 = true ∧ jc_mw 12 = true := by decide +kernel
theorem jc_mwA4 : jc_mw 13 = true ∧ jc_mw 14 = true := by decide +kernel
def jc_mg (mj : Nat) : Bool := plainName (jc_yy mj).cls && decide ((jc_yy mj).cls ≠ "java/lang/invoke/MethodHandle") && decide ((jc_yy mj).cls ≠ "java/lang/invoke/VarHandle") && decide ((parseMethodDescriptor (jc_yy mj).desc).map (fun d => d.parameters.length) = some (jc_na mj)) && decide (jc_mx mj ≤ 60) && decide (mj < 13 → (jc_yy mj).name = "<init>")
theorem jc_mgA : (List.range 15).all jc_mg = true := by decide +kernel
theorem jc_mwD {mj : Nat} (h : mj < 15) : Cond.code (jc_yy mj) (jc_by mj) (jc_mx mj) (jc_rt mj) ∈ lw_tbl ∧ Cond.initialized (jc_yy mj).cls ∈ lw_tbl ∧ (mj = 13 → Cond.static (jc_yy mj) ∈ lw_tbl) ∧ (mj ≠ 13 → Cond.instanceMethod (jc_yy mj) ∈ lw_tbl) := by
  have hb : jc_mw mj = true := by
    by_cases h3 : mj < 8
    · exact List.all_eq_true.mp jc_mwA1 mj (List.mem_range.mpr h3)
    · have hq : mj = 8 ∨ mj = 9 ∨ mj = 10 ∨ mj = 11 ∨ mj = 12 ∨ mj = 13 ∨ mj = 14 := by omega
      rcases hq with rfl | rfl | rfl | rfl | rfl | rfl | rfl
      · exact jc_mwA2.1
      · exact jc_mwA2.2.1
      · exact jc_mwA2.2.2
      · exact jc_mwA3.1
      · exact jc_mwA3.2
      · exact jc_mwA4.1
      · exact jc_mwA4.2
  unfold jc_mw at hb
  rw [Bool.and_eq_true, Bool.and_eq_true, decide_eq_true_eq, decide_eq_true_eq, decide_eq_true_eq] at hb
  obtain ⟨⟨h1, h2⟩, h3⟩ := hb
  exact ⟨h1, h2, fun z => by rw [if_pos z] at h3; exact h3, fun z => by rw [if_neg z] at h3; exact h3⟩
theorem jc_mgD {mj : Nat} (h : mj < 15) : plainName (jc_yy mj).cls = true ∧ (jc_yy mj).cls ≠ "java/lang/invoke/MethodHandle" ∧ (jc_yy mj).cls ≠ "java/lang/invoke/VarHandle" ∧ (parseMethodDescriptor (jc_yy mj).desc).map (fun d => d.parameters.length) = some (jc_na mj) ∧ jc_mx mj ≤ 60 ∧ (mj < 13 → (jc_yy mj).name = "<init>") := by
  have hb := List.all_eq_true.mp jc_mgA mj (List.mem_range.mpr h)
  unfold jc_mg at hb
  rw [Bool.and_eq_true, Bool.and_eq_true, Bool.and_eq_true, Bool.and_eq_true, Bool.and_eq_true, decide_eq_true_eq, decide_eq_true_eq, decide_eq_true_eq, decide_eq_true_eq, decide_eq_true_eq] at hb
  obtain ⟨⟨⟨⟨⟨h1, h2⟩, h3⟩, h4⟩, h5⟩, h6⟩ := hb
  exact ⟨h1, h2, h3, h4, h5, h6⟩
theorem jc_put14 : Cond.selects "LazyStrict$Longs" (jc_yy 14) (jc_yy 14) ∈ lw_tbl := by decide +kernel
