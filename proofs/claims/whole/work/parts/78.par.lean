/-! READER, 25: parameters. -/
def crP : List Nat := [15, 17, 1, 5, 3, 47, 61, 55, 57, 59, 23, 25, 27, 29, 31, 33, 35]
def rrP : List Nat := [107, 108, 109, 110, 106, 142, 143, 137, 112, 113, 114, 115, 116, 117, 118, 119, 120, 121, 122]
theorem PR_row {E : jEn} {f nf a n l : Nat} {sc : List Nat} {G : jGh} {t dn dep : Nat} {τ ρ τ' ρ' : jx_S} (h : PR E f nf a n l sc G t dn dep τ ρ) (h1 : same crP τ τ') (h2 : same rrP ρ ρ') (h3 : τ'.2 = τ.2) : PR E f nf a n l sc G t dn dep τ' ρ' := by
  have hb := PR_bounds h
  obtain ⟨hE, hA, hB, hbd, hS, hT, hN⟩ := id h
  obtain ⟨a0, a1, a2, a3, a4, a5, a6, a7⟩ := id hA
  obtain ⟨b0, b1, b2, b3, b4, b5, b6, b7, b8, b9, b10⟩ := id hB
  refine ⟨hE, ?_, ?_, hbd, ?_, ?_, ?_⟩
  · refine ⟨EnvC_keep a0 (h1 15 (by decide)) (h1 17 (by decide)) (by rw [h3]), ?_, ?_, ?_, ?_, ?_, ?_, ?_⟩
    · rw [h1 1 (by decide)]; exact a1
    · rw [h1 5 (by decide)]; exact a2
    · rw [h1 3 (by decide)]; exact a3
    · rw [h1 5 (by decide)]; exact a4
    · rw [h1 47 (by decide)]; exact a5
    · rw [h1 5 (by decide)]; exact a6
    · rw [h1 29 (by decide), h1 23 (by decide)]; exact a7
  · unfold PB
    rw [h2 106 (by decide)]
    exact ⟨EnvR_keep b0 (h2 107 (by decide)) (h2 108 (by decide)) (h2 109 (by decide)) (h2 110 (by decide)) (by rw [h2 106 (by decide)]), b1, b2, b3, b4, b5, b6, b7, b8, b9, b10⟩
  · rw [h1 61 (by decide), h1 55 (by decide), h2 142 (by decide), h2 143 (by decide)]; exact hS
  · rw [h1 57 (by decide), h1 59 (by decide), h2 137 (by decide)]; exact hT
  · intro k k1 k2
    obtain ⟨u1, u2⟩ := hN k k1 k2
    exact ⟨NodeOK_keep (NK_rows (rowsK_same h1 (by decide)) (rowsK_same h2 (by decide))) (fun _ _ => rfl) k2 (by omega) u1, u2.1, CsT_keep u2.2 (fun j _ => by rw [h1 57 (by decide)]) (by rw [h2 112 (by decide)]) (by rw [h2 117 (by decide)]) (Nat.le_refl _)⟩
/-- what stays of the functions before this one, and of the nodes before -/
def TK (f n : Nat) (τ ρ τ' ρ' : jx_S) : Prop := (∀ g, g ≠ f → ∀ r, r ∈ [41, 43, 45, 47, 49, 51, 53] → τ'.1 r g = τ.1 r g) ∧ (∀ g, g ≠ f → ∀ r, r ∈ [126, 127, 128, 129, 130, 131, 132, 133] → ρ'.1 r g = ρ.1 r g) ∧ rowsK [55, 57, 59] (30 * f) τ.1 τ'.1 ∧ rowsK [137] (30 * f) ρ.1 ρ'.1 ∧ rowsK [134, 135] (8 * f) ρ.1 ρ'.1 ∧ rowsK crN (n + 1) τ.1 τ'.1 ∧ rowsK rrN n ρ.1 ρ'.1
theorem TK_trans {f n n' : Nat} {τ ρ τ1 ρ1 τ2 ρ2 : jx_S} (h : TK f n τ ρ τ1 ρ1) (h2 : TK f n' τ1 ρ1 τ2 ρ2) (hn : n ≤ n') : TK f n τ ρ τ2 ρ2 :=
  ⟨fun g hg r hr => (h2.1 g hg r hr).trans (h.1 g hg r hr), fun g hg r hr => (h2.2.1 g hg r hr).trans (h.2.1 g hg r hr), rowsK_trans h.2.2.1 h2.2.2.1 (Nat.le_refl _), rowsK_trans h.2.2.2.1 h2.2.2.2.1 (Nat.le_refl _), rowsK_trans h.2.2.2.2.1 h2.2.2.2.2.1 (Nat.le_refl _), rowsK_trans h.2.2.2.2.2.1 h2.2.2.2.2.2.1 (by omega), rowsK_trans h.2.2.2.2.2.2 h2.2.2.2.2.2.2 hn⟩
theorem rowsK_less {rs : List Nat} {b b' : Nat} {g g' : Nat → Nat → Int32} (h : rowsK rs b g g') (hb : b' ≤ b) : rowsK rs b' g g' := fun r hr j hj => h r hr j (by omega)
theorem TK_KP {f n l s t dn : Nat} {τ ρ τ' ρ' : jx_S} (h : KP f n l s t dn τ ρ τ' ρ') : TK f n τ ρ τ' ρ' := by
  obtain ⟨k1, k2, k3, k4, k5, k6, k7, k8, k9, k10, k11⟩ := h
  refine ⟨fun g hg r hr => ?_, fun g hg r hr => ?_, rowsK_less k7 (by omega), rowsK_less k8 (by omega), rowsK_same k11 (by decide), k1, k2⟩
  · simp only [List.mem_cons, List.not_mem_nil, or_false] at hr
    rcases hr with rfl | rfl | rfl | rfl | rfl | rfl | rfl
    · rw [k10 41 (by decide)]
    · rw [k10 43 (by decide)]
    · rw [k10 45 (by decide)]
    · exact (k9 g hg).1
    · rw [k10 49 (by decide)]
    · rw [k10 51 (by decide)]
    · rw [k10 53 (by decide)]
  · simp only [List.mem_cons, List.not_mem_nil, or_false] at hr
    rcases hr with rfl | rfl | rfl | rfl | rfl | rfl | rfl | rfl
    · rw [k11 126 (by decide)]
    · rw [k11 127 (by decide)]
    · rw [k11 128 (by decide)]
    · rw [k11 129 (by decide)]
    · exact (k9 g hg).2
    · rw [k11 131 (by decide)]
    · rw [k11 132 (by decide)]
    · rw [k11 133 (by decide)]
/-- stores in the tables of this function -/
theorem TK_i {f n : Nat} {τ ρ τ' ρ' : jx_S} {k j : Nat} {v : Int32} (h : TK f n τ ρ τ' ρ') (hk : ([126, 127, 128, 129, 130, 131, 132, 133].contains k = true ∧ j = f) ∨ (k = 137 ∧ 30 * f ≤ j) ∨ ((k = 134 ∨ k = 135) ∧ 8 * f ≤ j) ∨ ([126, 127, 128, 129, 130, 131, 132, 133, 137, 134, 135].contains k = false ∧ rrN.contains k = false)) : TK f n τ ρ τ' (jx_i ρ' k j v) := by
  obtain ⟨h1, h2, h3, h4, h5, h6, h7⟩ := h
  have hne : ∀ r : Nat, ∀ rs : List Nat, r ∈ rs → rs.contains k = false → r ≠ k := fun r rs hr hc q => by rw [q] at hr; rw [List.contains_iff_mem.mpr hr] at hc; exact absurd hc (by decide)
  refine ⟨h1, fun g hg r hr => ?_, h3, ?_, ?_, h6, ?_⟩
  · by_cases hrk : r = k
    · subst hrk
      rw [s_i_eq]
      rcases hk with hk | hk | hk | hk
      · rw [u_ne (by omega)]; exact h2 g hg r hr
      · rw [hk.1] at hr; exact absurd hr (by decide)
      · rcases hk.1 with q | q <;> (rw [q] at hr; exact absurd hr (by decide))
      · exact absurd rfl (hne r [126, 127, 128, 129, 130, 131, 132, 133, 137, 134, 135] (by simp only [List.mem_cons, List.not_mem_nil, or_false] at hr ⊢; omega) hk.1)
    · rw [s_i_ne hrk]; exact h2 g hg r hr
  · rcases hk with hk | hk | hk | hk
    · exact rowsK_out h4 (Or.inl (by
        have := List.contains_iff_mem.mp hk.1
        simp only [List.mem_cons, List.not_mem_nil, or_false] at this
        rcases this with rfl | rfl | rfl | rfl | rfl | rfl | rfl | rfl <;> decide))
    · exact rowsK_out h4 (Or.inr hk.2)
    · exact rowsK_out h4 (Or.inl (by rcases hk.1 with rfl | rfl <;> decide))
    · exact rowsK_out h4 (Or.inl (by
        cases hq : ([137] : List Nat).contains k with
        | false => rfl
        | true =>
          have := List.contains_iff_mem.mp hq
          simp only [List.mem_cons, List.not_mem_nil, or_false] at this
          rw [this] at hk
          exact absurd hk.1 (by decide)))
  · rcases hk with hk | hk | hk | hk
    · exact rowsK_out h5 (Or.inl (by
        have := List.contains_iff_mem.mp hk.1
        simp only [List.mem_cons, List.not_mem_nil, or_false] at this
        rcases this with rfl | rfl | rfl | rfl | rfl | rfl | rfl | rfl <;> decide))
    · exact rowsK_out h5 (Or.inl (by rw [hk.1]; decide))
    · exact rowsK_out h5 (Or.inr hk.2)
    · exact rowsK_out h5 (Or.inl (by
        cases hq : ([134, 135] : List Nat).contains k with
        | false => rfl
        | true =>
          have := List.contains_iff_mem.mp hq
          simp only [List.mem_cons, List.not_mem_nil, or_false] at this
          rcases this with q | q <;> (rw [q] at hk; exact absurd hk.1 (by decide))))
  · rcases hk with hk | hk | hk | hk
    · exact rowsK_out h7 (Or.inl (by
        have := List.contains_iff_mem.mp hk.1
        simp only [List.mem_cons, List.not_mem_nil, or_false] at this
        rcases this with rfl | rfl | rfl | rfl | rfl | rfl | rfl | rfl <;> decide))
    · exact rowsK_out h7 (Or.inl (by rw [hk.1]; decide))
    · exact rowsK_out h7 (Or.inl (by rcases hk.1 with rfl | rfl <;> decide))
    · exact rowsK_out h7 (Or.inl hk.2)
theorem TK_c {f n m j : Nat} {τ ρ τ' ρ' : jx_S} {k : Nat} {v : Int32} (hj : j < m) (hm : m < 2 ^ 31) (h : TK f n τ ρ τ' ρ') (hk : (([41, 43, 45, 47, 49, 51, 53].contains k = true) ∧ j = f) ∨ (([55, 57, 59].contains k = true) ∧ 30 * f ≤ j)) : TK f n τ ρ (jI_put m τ' k (nI j) v) ρ' := by
  obtain ⟨h1, h2, h3, h4, h5, h6, h7⟩ := h
  refine ⟨fun g hg r hr => ?_, h2, ?_, h4, h5, ?_, h7⟩
  · by_cases hrk : r = k
    · subst hrk
      rw [s_p_eq, jI_up_in hj hm]
      rcases hk with hk | hk
      · rw [u_ne (by omega)]; exact h1 g hg r hr
      · exfalso
        have := List.contains_iff_mem.mp hk.1
        simp only [List.mem_cons, List.not_mem_nil, or_false] at this hr
        omega
    · rw [s_p_ne hrk]; exact h1 g hg r hr
  · rcases hk with hk | hk
    · exact rowsK_put hj hm h3 (Or.inl (by
        have := List.contains_iff_mem.mp hk.1
        simp only [List.mem_cons, List.not_mem_nil, or_false] at this
        rcases this with rfl | rfl | rfl | rfl | rfl | rfl | rfl <;> decide))
    · exact rowsK_put hj hm h3 (Or.inr hk.2)
  · rcases hk with hk | hk
    · exact rowsK_put hj hm h6 (Or.inl (by
        have := List.contains_iff_mem.mp hk.1
        simp only [List.mem_cons, List.not_mem_nil, or_false] at this
        rcases this with rfl | rfl | rfl | rfl | rfl | rfl | rfl <;> decide))
    · exact rowsK_put hj hm h6 (Or.inl (by
        have := List.contains_iff_mem.mp hk.1
        simp only [List.mem_cons, List.not_mem_nil, or_false] at this
        rcases this with rfl | rfl | rfl <;> decide))
theorem TK_f {f n : Nat} {τ ρ τ' ρ' : jx_S} {k j : Nat} {v : Int32} (h : TK f n τ ρ τ' ρ') (hk : k = 5 ∨ k = 3 ∨ k = 4 ∨ k = 1) : TK f n τ ρ (jx_i τ' k j v) ρ' := by
  obtain ⟨h1, h2, h3, h4, h5, h6, h7⟩ := h
  refine ⟨fun g hg r hr => ?_, h2, rowsK_out h3 (Or.inl ?_), h4, h5, rowsK_out h6 (Or.inl ?_), h7⟩
  · rw [s_i_ne (by
      simp only [List.mem_cons, List.not_mem_nil, or_false] at hr
      omega)]
    exact h1 g hg r hr
  · rcases hk with rfl | rfl | rfl | rfl <;> decide
  · rcases hk with rfl | rfl | rfl | rfl <;> decide
theorem TK_refl {f n : Nat} {τ ρ : jx_S} : TK f n τ ρ τ ρ := ⟨fun _ _ _ _ => rfl, fun _ _ _ _ => rfl, fun _ _ _ _ => rfl, fun _ _ _ _ => rfl, fun _ _ _ _ => rfl, fun _ _ _ _ => rfl, fun _ _ _ _ => rfl⟩
