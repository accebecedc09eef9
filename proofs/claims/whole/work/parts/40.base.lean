/-! LAYER 2: first rows on the printed functions: small numbers, rows that are always tested, stores. -/
theorem jI_at_in {n j : Nat} {f : Nat → Int32} (hj : j < n) (hn : n < 2 ^ 31) : jI_at n f (nI j) = f j := by
  unfold jI_at
  rw [if_neg (nI_pos (by omega)), if_neg (show ¬ Int32.ofNat n ≤ nI j from nI_ge hj hn), nI_clamp (by omega)]
theorem jI_at_out {n j : Nat} {f : Nat → Int32} (hj : n ≤ j) (hn : j < 2 ^ 31) : jI_at n f (nI j) = 0 := by
  unfold jI_at
  rw [if_neg (nI_pos hn), if_pos (show Int32.ofNat n ≤ nI j from nI_le hj hn)]
theorem jI_at_neg {n : Nat} {f : Nat → Int32} {x : Int32} (h : x < 0) : jI_at n f x = 0 := by
  unfold jI_at
  rw [if_pos h]
theorem jL_at_in {n j : Nat} {f : Nat → Int64} (hj : j < n) (hn : n < 2 ^ 31) : jL_at n f (nI j) = f j := by
  unfold jL_at
  rw [if_neg (nI_pos (by omega)), if_neg (show ¬ Int32.ofNat n ≤ nI j from nI_ge hj hn), nI_clamp (by omega)]
theorem jL_at_out {n j : Nat} {f : Nat → Int64} (hj : n ≤ j) (hn : j < 2 ^ 31) : jL_at n f (nI j) = 0 := by
  unfold jL_at
  rw [if_neg (nI_pos hn), if_pos (show Int32.ofNat n ≤ nI j from nI_le hj hn)]
theorem jI_up_in {n j : Nat} {f : Nat → Int32} {v : Int32} (hj : j < n) (hn : n < 2 ^ 31) : jI_up n f (nI j) v = upd f j v := by
  funext a
  unfold jI_up upd
  rw [if_neg (nI_pos (by omega)), if_neg (show ¬ Int32.ofNat n ≤ nI j from nI_ge hj hn), nI_clamp (by omega)]
theorem jI_up_out {n j : Nat} {f : Nat → Int32} {v : Int32} (hj : n ≤ j) (hn : j < 2 ^ 31) : jI_up n f (nI j) v = f := by
  funext a
  unfold jI_up
  rw [if_neg (nI_pos hn), if_pos (show Int32.ofNat n ≤ nI j from nI_le hj hn)]
theorem jL_up_in {n j : Nat} {f : Nat → Int64} {v : Int64} (hj : j < n) (hn : n < 2 ^ 31) : jL_up n f (nI j) v = vp_updL f j v := by
  funext a
  unfold jL_up vp_updL
  rw [if_neg (nI_pos (by omega)), if_neg (show ¬ Int32.ofNat n ≤ nI j from nI_ge hj hn), nI_clamp (by omega)]
theorem jI_put_1 {n : Nat} {σ : jx_S} {a : Nat} {i v : Int32} {k : Nat} : (jI_put n σ a i v).1 k = if k = a then jI_up n (σ.1 a) i v else σ.1 k := rfl
theorem jI_put_2 {n : Nat} {σ : jx_S} {a : Nat} {i v : Int32} : (jI_put n σ a i v).2 = σ.2 := rfl
theorem jL_put_1 {n : Nat} {σ : jx_S} {a : Nat} {i : Int32} {v : Int64} : (jL_put n σ a i v).1 = σ.1 := rfl
theorem jL_put_2 {n : Nat} {σ : jx_S} {a : Nat} {i : Int32} {v : Int64} {k : Nat} : (jL_put n σ a i v).2 k = if k = a then jL_up n (σ.2 a) i v else σ.2 k := rfl
theorem jx_i_1 {σ : jx_S} {k j a b : Nat} {v : Int32} : (jx_i σ k j v).1 a b = if a = k ∧ b = j then v else σ.1 a b := rfl
theorem jx_i_2 {σ : jx_S} {k j : Nat} {v : Int32} : (jx_i σ k j v).2 = σ.2 := rfl
theorem jx_l_1 {σ : jx_S} {k j : Nat} {v : Int64} : (jx_l σ k j v).1 = σ.1 := rfl
theorem jx_l_2 {σ : jx_S} {k j a b : Nat} {v : Int64} : (jx_l σ k j v).2 a b = if a = k ∧ b = j then v else σ.2 a b := rfl
/-- an index that is in range is not out of range -/
theorem jo_in {n j : Nat} (hj : j < n) (hn : n < 2 ^ 31) : ¬ (nI j < 0 ∨ n ≤ (nI j).toNatClampNeg) := nI_in hj hn
/-- a loop that goes on -/
theorem jx_loop_inl {α β : Type} {f : α → Option (α ⊕ β)} {n : Nat} {s s1 : α} (h : f s = some (.inl s1)) : jx_loop (n + 1) f s = jx_loop n f s1 := by rw [jx_loop, h]
theorem jx_loop_inr {α β : Type} {f : α → Option (α ⊕ β)} {n : Nat} {s : α} {b : β} (h : f s = some (.inr b)) : jx_loop (n + 1) f s = some b := by rw [jx_loop, h]
/-- a loop by a measure: what it comes to, whatever the fuel, if there is enough of it -/
theorem jx_loop_by {α β : Type} {f : α → Option (α ⊕ β)} (I : α → Prop) (μ : α → Nat) (Q : α → β → Prop) (hs : ∀ s, I s → (∃ s1, f s = some (.inl s1) ∧ I s1 ∧ μ s1 < μ s ∧ ∀ b, Q s1 b → Q s b) ∨ ∃ b, f s = some (.inr b) ∧ Q s b) : ∀ (n : Nat) (s : α), I s → μ s < n → ∃ b, jx_loop n f s = some b ∧ Q s b := by
  intro n
  induction n with
  | zero => intro s _ h; omega
  | succ n ih =>
    intro s hI hm
    rcases hs s hI with ⟨s1, h1, h2, h3, h4⟩ | ⟨b, h1, h2⟩
    · obtain ⟨b, h5, h6⟩ := ih s1 h2 (by omega)
      exact ⟨b, by rw [jx_loop_inl h1]; exact h5, h4 b h6⟩
    · exact ⟨b, jx_loop_inr h1, h2⟩
/-! the small calls of both sides, as they are -/
theorem q_cl_forget (σ : jx_S) : p_cl_forget σ = some (jI_clr 10 (jx_i (jx_i σ 0 12 0) 0 11 0) 71) := rfl
theorem q_cl_wipe (σ : jx_S) : p_cl_wipe σ = some (σ.1 0 10, jI_clr 10 (jx_i (jx_i (jx_i σ 0 10 0) 0 12 0) 0 11 0) 71) := rfl
