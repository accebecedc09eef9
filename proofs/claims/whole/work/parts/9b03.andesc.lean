/-! ANALYSIS, 3: the nodes' own data, chosen once. -/
abbrev jRw : Type := Nat × Nat × Nat × Nat × Nat × (Nat → Nat)
def wtN (ρ : jx_S) (k : Nat) : Nat := (ρ.1 124 k).toNatClampNeg
/-- one node with its types -/
def RawN (E : jEn) (G : jGh) (F : Nat) (pN bN : Nat → Nat) (ty : Nat → Nat → Nat) (f : Nat) (τ ρ : jx_S) (k o tk m lo s : Nat) (cs : Nat → Nat) : Prop := NdS E G τ ρ k o tk m lo s cs ∧ (∀ i, i < m → NdC E G τ ρ k o m lo s cs i) ∧ wtN ρ k < 14 ∧ τ.1 37 (k + 1) = nI (wtN ρ k) ∧ ρ.1 124 k = nI (wtN ρ k) ∧ okN F pN bN ty f o m s (wtN ρ k) (fun i => wtN ρ (cs i)) (τ.1 33 (k + 1)) (ρ.1 117 k) (ρ.1 123 k)
def RawR (E : jEn) (G : jGh) (F : Nat) (pN bN : Nat → Nat) (ty : Nat → Nat → Nat) (f : Nat) (τ ρ : jx_S) (k : Nat) (R : jRw) : Prop := RawN E G F pN bN ty f τ ρ k R.1 R.2.1 R.2.2.1 R.2.2.2.1 R.2.2.2.2.1 R.2.2.2.2.2
theorem okN_wt {F : Nat} {pN bN : Nat → Nat} {ty : Nat → Nat → Nat} {f o m s w : Nat} {wt wt' : Nat → Nat} {c33 r117 r123 : Int32} (ha : arOK o m) (h : okN F pN bN ty f o m s w wt c33 r117 r123) (e : ∀ i, i < m → wt i = wt' i) : okN F pN bN ty f o m s w wt' c33 r117 r123 := by
  unfold okN at *
  unfold arOK at ha
  rcases h with h | h | h | h | h | h | h | h | h | h
  · exact Or.inl h
  · exact Or.inr (Or.inl h)
  · exact Or.inr (Or.inr (Or.inl h))
  · refine Or.inr (Or.inr (Or.inr (Or.inl ⟨h.1, h.2.1, ?_, ?_⟩)))
    · rw [← e 0 (by omega)]; exact h.2.2.1
    · rw [← e 1 (by omega)]; exact h.2.2.2
  · refine Or.inr (Or.inr (Or.inr (Or.inr (Or.inl ⟨h.1, h.2.1, ?_, ?_⟩))))
    · rw [← e 0 (by omega)]; exact h.2.2.1
    · rw [← e 1 (by omega)]; exact h.2.2.2
  · refine Or.inr (Or.inr (Or.inr (Or.inr (Or.inr (Or.inl ⟨h.1, h.2.1, ?_, ?_⟩)))))
    · rw [← e 0 (by omega)]; exact h.2.2.1
    · rw [← e 1 (by omega)]; exact h.2.2.2
  · refine Or.inr (Or.inr (Or.inr (Or.inr (Or.inr (Or.inr (Or.inl ⟨h.1, h.2.1, ?_, ?_, ?_⟩))))))
    · rw [← e 0 (by omega)]; exact h.2.2.1
    · rw [← e 1 (by omega)]; exact h.2.2.2.1
    · rw [← e 2 (by omega)]; exact h.2.2.2.2
  · refine Or.inr (Or.inr (Or.inr (Or.inr (Or.inr (Or.inr (Or.inr (Or.inl ⟨h.1, h.2.1, ?_, ?_, ?_⟩)))))))
    · rw [← e 0 (by omega)]; exact h.2.2.1
    · rw [← e 1 (by omega)]; exact h.2.2.2.1
    · rw [← e 2 (by omega)]; exact h.2.2.2.2
  · obtain ⟨h1, h2, h0, h3, h4, h5⟩ := h
    exact Or.inr (Or.inr (Or.inr (Or.inr (Or.inr (Or.inr (Or.inr (Or.inr (Or.inl ⟨h1, h2, h0, h3, h4, fun i hi => by rw [← e i hi]; exact h5 i hi⟩))))))))
  · obtain ⟨h1, h2, g, h3, h4, h5, h6, h7, h8⟩ := h
    exact Or.inr (Or.inr (Or.inr (Or.inr (Or.inr (Or.inr (Or.inr (Or.inr (Or.inr ⟨h1, h2, g, h3, h4, h5, h6, h7, fun i hi => by rw [← e i hi]; exact h8 i hi⟩))))))))
/-- below a node: lower ends, and a node above each -/
theorem nd_below {E : jEn} {G : jGh} {τ ρ : jx_S} {R : Nat → jRw} : ∀ x, x < 1200 → (∀ k, k ≤ x → (R x).2.2.2.1 ≤ k → NdS E G τ ρ k (R k).1 (R k).2.1 (R k).2.2.1 (R k).2.2.2.1 (R k).2.2.2.2.1 (R k).2.2.2.2.2 ∧ ∀ i, i < (R k).2.2.1 → NdC E G τ ρ k (R k).1 (R k).2.2.1 (R k).2.2.2.1 (R k).2.2.2.2.1 (R k).2.2.2.2.2 i) →
    ∀ k, k ≤ x → (R x).2.2.2.1 ≤ k → (R x).2.2.2.1 ≤ (R k).2.2.2.1 ∧ (k < x → ∃ p i, k < p ∧ p ≤ x ∧ i < (R p).2.2.1 ∧ (R p).2.2.2.2.2 i = k) := by
  intro x
  induction x using Nat.strongRecOn with
  | ind x ih =>
    intro hx hK k hk hlo
    by_cases hkx : k = x
    · subst hkx; exact ⟨Nat.le_refl _, fun h => absurd h (by omega)⟩
    obtain ⟨hA, hN⟩ := hK x (Nat.le_refl _) (by omega)
    generalize hm : (R x).2.2.1 = m at *
    generalize hcs : (R x).2.2.2.2.2 = cs at *
    generalize hl : (R x).2.2.2.1 = lo at *
    obtain ⟨c1, c2, c3, c4, c5, c6, c7, c8, c9, c10, c11, _⟩ := hA
    obtain ⟨_, hlt, hmx⟩ := nd_children hx hN
    have hm0 : 0 < m := by
      rcases Nat.eq_zero_or_pos m with z | z
      · have := c10 z; omega
      · exact z
    -- the first part at or behind k
    have hex : ∃ i, i < m ∧ k ≤ cs i ∧ (∀ i', i' < i → cs i' < k) := by
      have key : ∀ n, n ≤ m → (∃ i, i < n ∧ k ≤ cs i ∧ (∀ i', i' < i → cs i' < k)) ∨ (∀ i', i' < n → cs i' < k) := by
        intro n
        induction n with
        | zero => intro _; exact Or.inr (fun i' h => absurd h (by omega))
        | succ n ihn =>
          intro hn
          rcases ihn (by omega) with ⟨i, h1, h2, h3⟩ | h
          · exact Or.inl ⟨i, by omega, h2, h3⟩
          · by_cases z : k ≤ cs n
            · exact Or.inl ⟨n, by omega, z, h⟩
            · refine Or.inr (fun i' hi' => ?_)
              by_cases e : i' = n
              · rw [e]; omega
              · exact h i' (by omega)
      rcases key m (Nat.le_refl _) with h | h
      · exact h
      · have := h (m - 1) (by omega)
        have := c11 hm0
        omega
    obtain ⟨i, hi, h1, h2⟩ := hex
    obtain ⟨n1, n2, n3, n4, _⟩ := hN i hi
    have hci := hK (cs i) (by omega) (by omega)
    have eL : (R (cs i)).2.2.2.1 = (if i = 0 then lo else cs (i - 1) + 1) := by
      have a1 := hci.1.2.2.2.2.2.2.2.1
      have b1 := hci.1.2.2.2.2.2.2.2.2.1
      refine (nI_eq (by omega) ?_).mp (a1.symm.trans n3)
      split
      · omega
      · have := (hN (i - 1) (by omega)).1; omega
    have hge : lo ≤ (R (cs i)).2.2.2.1 ∧ (R (cs i)).2.2.2.1 ≤ k := by
      rw [eL]
      by_cases z : i = 0
      · rw [if_pos z]; omega
      · rw [if_neg z]
        have q1 := h2 (i - 1) (by omega)
        have q2 := (hN (i - 1) (by omega)).2.1
        omega
    obtain ⟨w1, w2⟩ := ih (cs i) n1 (by omega) (fun k' k1 k2 => hK k' (by omega) (by omega)) k h1 hge.2
    refine ⟨by omega, fun _ => ?_⟩
    by_cases e : k = cs i
    · exact ⟨x, i, by omega, Nat.le_refl _, by rw [hm]; exact hi, by rw [hcs]; exact e.symm⟩
    · obtain ⟨p, i', y1, y2, y3, y4⟩ := w2 (by omega)
      exact ⟨p, i', y1, by omega, y3, y4⟩
