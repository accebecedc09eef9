/-! CONSTRUCTORS, 5: a world only grows. -/
theorem jc_mono1 {i : Instr} {mi pc pc1 : Nat} {l l1 : jx_L} {st st1 : List Value} {ws ws1 : jc_W} (h : jc_step i mi pc l st ws = some (.inl (pc1, l1, st1, ws1))) : ws1 = ws ∨ (∃ E, ws1 = ws ++ [E]) ∨ (∃ b E0 E, ws[b]? = some E0 ∧ jc_sz E = jc_sz E0 ∧ ws1 = ws.set b E) := by
  unfold jc_step at h
  split at h
  all_goals (try unfold jc_ld at h)
  all_goals (try unfold jc_go at h)
  all_goals (repeat' split at h)
  all_goals (try unfold jc_put at h)
  all_goals (try unfold jc_get at h)
  all_goals (repeat' split at h)
  all_goals first
    | (cases h; done)
    | (cases h; exact Or.inl rfl)
    | (cases h; exact Or.inr (Or.inl ⟨_, rfl⟩))
    | (cases h; exact Or.inr (Or.inr ⟨_, _, _, by assumption, by simp [jc_sz], rfl⟩))
theorem jc_mono2 {i : Instr} {mi pc pc1 : Nat} {l l1 : jx_L} {st st1 : List Value} {ws ws1 : jc_W} (h : jc_step i mi pc l st ws = some (.inl (pc1, l1, st1, ws1))) : ws.length ≤ ws1.length ∧ jc_sl ws ≤ jc_sl ws1 := by
  rcases jc_mono1 h with rfl | ⟨E, rfl⟩ | ⟨b, E0, E, h1, h2, rfl⟩
  · exact ⟨Nat.le_refl _, Nat.le_refl _⟩
  · exact ⟨by simp, by rw [jc_sl_app]; omega⟩
  · exact ⟨by simp, by rw [jc_sl_set h1 h2]; exact Nat.le_refl _⟩
theorem jc_mono : ∀ (n d mi pc : Nat) (l : jx_L) (st : List Value) (ws : jc_W) (v : Option Value) (ws' : jc_W), jc_run n d mi pc l st ws = some (v, ws') → ws.length ≤ ws'.length ∧ jc_sl ws ≤ jc_sl ws' := by
  intro n
  induction n with
  | zero => intro d mi pc l st ws v ws' h; cases h
  | succ n ih =>
    intro d mi pc l st ws v ws' h
    rw [jc_run] at h
    split at h
    · cases h
    · split at h
      · cases h
      · rename_i pc1 l1 st1 ws1 hs
        have h1 := jc_mono2 hs
        have h2 := ih _ _ _ _ _ _ _ _ h
        exact ⟨Nat.le_trans h1.1 h2.1, Nat.le_trans h1.2 h2.2⟩
      · cases h
        exact ⟨Nat.le_refl _, Nat.le_refl _⟩
      · split at h
        · cases h
        · split at h
          · cases h
          · rename_i v1 ws1 hr
            have h1 := ih _ _ _ _ _ _ _ _ hr
            have h2 := ih _ _ _ _ _ _ _ _ h
            exact ⟨Nat.le_trans h1.1 h2.1, Nat.le_trans h1.2 h2.2⟩
