/-! ANALYSIS, 5: the nodes' data hold. -/
theorem nI_ne_m1 {x : Nat} (h : x < 2 ^ 31) : ¬ nI x = -1 := fun q => by
  have := mF_eq h
  rw [show (-nI 1 : Int32) = -1 from rfl, q] at this
  simp at this
/-- the slot that a node is bound to -/
theorem nd_bound {E : jEn} {G : jGh} {F : Nat} {nS pN bN : Nat → Nat} {ty : Nat → Nat → Nat} {R : Nat → jRw} {τ ρ : jx_S} {g k : Nat} (hb : nS (g + 1) ≤ 1200) (h23 : τ.1 23 0 ≠ 5) (hr : τ.1 31 (nS (g + 1) - 1 + 1) = 0) (hr2 : ρ.1 122 (nS (g + 1) - 1) = -1) (hF : RawF E G F nS pN bN ty R τ ρ g) (k1 : nS g ≤ k) (k2 : k < nS (g + 1)) : v_cTre_boundBy (nI (k + 1)) τ = ρ.1 122 k ∧ (ρ.1 122 k = -1 ∨ ∃ p, k < p ∧ p < nS (g + 1) ∧ (R p).1 = 5 ∧ (R p).2.2.2.2.2 0 = k ∧ ρ.1 122 k = nI (R p).2.2.2.2.1) := by
  by_cases hk : k + 1 < nS (g + 1)
  · obtain ⟨p, i, y1, y2, y3, y4⟩ := (hF.1 k k1 k2).2.2 hk
    obtain ⟨hA, hN, _⟩ := (hF.1 p (by omega) y2).1
    generalize hcs : (R p).2.2.2.2.2 = cs at *
    generalize (R p).2.2.1 = m at *
    generalize hoo : (R p).1 = o at *
    generalize (R p).2.2.2.1 = lo at *
    generalize hs : (R p).2.2.2.2.1 = s at *
    obtain ⟨_, hlt, _⟩ := nd_children (by omega) hN
    obtain ⟨n1, n2, n3, n4, n5, n6, n7, _⟩ := hN i y3
    rw [y4] at n5 n7
    obtain ⟨c1, c2, c3, c4, c5, c6, c7, c8, c9, c10, c11, c12, c13, c14, c15, c16, c17, c18, c19, _⟩ := hA
    unfold v_cTre_boundBy
    rw [jI_at_in (show k + 1 < 1201 by omega) (by omega), n5, jI_at_in (show p + 1 < 1201 by omega) (by omega), c7, jI_at_in (show p + 1 < 1201 by omega) (by omega), c12, jI_at_in (show p + 1 < 1201 by omega) (by omega)]
    by_cases ho : o = 5
    · rw [if_neg (by omega : ¬ o = 1), ho, if_neg (by decide)]
      rw [if_pos (show 0 < m by omega)]
      by_cases hi : i = 0
      · subst hi
        rw [if_pos ⟨ho, rfl⟩] at n7
        rw [if_neg (show ¬ ¬ nI (cs 0 + 1) = nI (k + 1) from fun q => q (by rw [y4])), (c19 ho).2.1, n7]
        exact ⟨rfl, Or.inr ⟨p, y1, y2, hoo.trans ho, by rw [hcs]; exact y4, by rw [hs]⟩⟩
      · have := hlt 0 i (by omega) y3
        rw [if_neg (fun q => hi q.2)] at n7
        rw [if_pos (show ¬ nI (cs 0 + 1) = nI (k + 1) from fun q => by
          have := (nI_eq (by omega) (by omega)).mp q
          omega), n7]
        exact ⟨rfl, Or.inl rfl⟩
    · rw [if_neg (fun q => ho q.1)] at n7
      rw [n7]
      refine ⟨if_pos (fun q => ?_), Or.inl rfl⟩
      unfold arOK at c6
      have : (if o = 1 then if ρ.1 117 p = -1 then 29 else 28 else o) = 5 := (nI_eq (b := 5) (by split <;> (try split) <;> omega) (by omega)).mp q
      by_cases z : o = 1
      · rw [if_pos z] at this
        split at this <;> omega
      · rw [if_neg z] at this; exact ho this
  · have ek : k = nS (g + 1) - 1 := by omega
    rw [ek, hr2]
    refine ⟨?_, Or.inl rfl⟩
    unfold v_cTre_boundBy
    rw [jI_at_in (by omega) (by omega), hr]
    have e0 : jI_at 1201 (τ.1 23) 0 = τ.1 23 0 := jI_at_in (n := 1201) (j := 0) (by omega) (by omega)
    rw [e0]
    exact if_pos h23
theorem dsc_ok {E : jEn} (hE : EnvOK E) {G : jGh} {F : Nat} {nS pN bN lN' tk' : Nat → Nat} {ty : Nat → Nat → Nat} {R : Nat → jRw} {τ ρ : jx_S} {g k : Nat} (hb : nS (g + 1) ≤ 1200) (hg : g < F) (hF40 : F ≤ 40) (h23 : τ.1 23 0 ≠ 5) (hr2 : ρ.1 122 (nS (g + 1) - 1) = -1) (hD : FD E F pN bN lN' tk' ty τ ρ) (hT : FunT E G lN' τ ρ g (nS g) (nS (g + 1) - 1)) (hF : RawF E G F nS pN bN ty R τ ρ g) (k1 : nS g ≤ k) (k2 : k < nS (g + 1)) : AN E τ ρ k (R k).2.1 (dsc R ρ k) ∧ okT F pN bN ty g (wtN ρ) (dsc R ρ k) k ∧ wtN ρ k < 14 ∧ τ.1 37 (k + 1) = nI (wtN ρ k) ∧ ρ.1 124 k = nI (wtN ρ k) ∧ (dK (dsc R ρ k) = 28 → dS (dsc R ρ k) < lN' g) ∧ (dK (dsc R ρ k) = 5 → dS (dsc R ρ k) < lN' g) ∧ (dK (dsc R ρ k) = 10 → dS (dsc R ρ k) + 1 < lN' g) ∧ (dB (dsc R ρ k) = 0 ∨ (dB (dsc R ρ k) - 1 < lN' g ∧ ty g (dB (dsc R ρ k) - 1) = wtN ρ k)) := by
  have hbd := nd_bound hb h23 hT.2.2.2.2.2.2.1 hr2 hF k1 k2
  obtain ⟨⟨hA, hN, hw, h37, h124, hok⟩, hlo, _⟩ := hF.1 k k1 k2
  have gD : ∀ j, nS g ≤ j → j ≤ k → gD G j ≤ lN' g ∧ gB G j ≤ gD G j := fun j j1 j2 => by
    refine ⟨(hT.2.2.2.2.2.2.2 j j1 (by omega)).2, ?_⟩
    obtain ⟨⟨hA', _⟩, _⟩ := hF.1 j j1 (by omega)
    exact hA'.2.2.2.2.2.2.2.2.2.2.2.2.2.2.2.2.2.2.2.2.2.1
  have hl30 : lN' g ≤ 30 := by
    obtain ⟨_, _, _, _, _, _, _, d8, _⟩ := hD g hg
    exact d8
  have hsl : ∀ p, k < p → p < nS (g + 1) → (R p).1 = 5 → (R p).2.2.2.2.2 0 = k → (R p).2.2.2.2.1 < lN' g ∧ ty g (R p).2.2.2.2.1 = wtN ρ k := fun p p1 p2 p3 p4 => by
    obtain ⟨⟨hA', hN', _, _, _, hok'⟩, _, _⟩ := hF.1 p (by omega) p2
    have c6 := hA'.2.2.2.2.2.1
    have c19 := (hA'.2.2.2.2.2.2.2.2.2.2.2.2.2.2.2.2.2.2.1 p3).2.2
    have hm : 0 < (R p).2.2.1 := by unfold arOK at c6; omega
    obtain ⟨n1, n2, _, _, _, _, _, _, _, n10⟩ := hN' 0 hm
    rw [if_pos rfl, if_pos ⟨p3, rfl⟩, p4] at n10
    have := gD k k1 (Nat.le_refl _)
    refine ⟨by omega, ?_⟩
    unfold okN at hok'
    have fin : (R p).1 = 5 ∧ wtN ρ p < 2 ∧ wtN ρ ((R p).2.2.2.2.2 0) = ty g (R p).2.2.2.2.1 ∧ wtN ρ ((R p).2.2.2.2.2 1) = wtN ρ p := by
      clear hbd hlo hok hw h37 h124 hN hA hD hT hF hA' hN' gD
      rcases hok' with h | h | h | h | h | h | h | h | h | h
      · omega
      · omega
      · omega
      · omega
      · omega
      · exact h
      · omega
      · omega
      · omega
      · omega
    rw [p4] at fin
    exact fin.2.2.1.symm
  have hb2 : dB (dsc R ρ k) = 0 ∧ ρ.1 122 k = -1 ∨ ∃ s, dB (dsc R ρ k) = s + 1 ∧ ρ.1 122 k = nI s ∧ s < lN' g ∧ ty g s = wtN ρ k := by
    show (if ρ.1 122 k = -1 then 0 else (ρ.1 122 k).toNatClampNeg + 1) = 0 ∧ _ ∨ ∃ s, (if ρ.1 122 k = -1 then 0 else (ρ.1 122 k).toNatClampNeg + 1) = s + 1 ∧ _
    rcases hbd.2 with z | ⟨p, z1, z2, z3, z4, z5⟩
    · rw [if_pos z]; exact Or.inl ⟨rfl, z⟩
    · obtain ⟨q1, q2⟩ := hsl p z1 z2 z3 z4
      refine Or.inr ⟨(R p).2.2.2.2.1, ?_, z5, q1, q2⟩
      rw [z5, if_neg (nI_ne_m1 (by omega)), nI_clamp (by omega)]
  obtain ⟨hcs, hlt, hmx⟩ := nd_children (by omega) hN
  obtain ⟨c1, c2, c3, c4, c5, c6, c7, c8, c9, c10, c11, c12, c13, c14, c15, c16, c17, c18, c19, c20, c21, c22, c23, c24⟩ := hA
  have hpt : ∀ i, i < (R k).2.2.1 → nS g ≤ (R k).2.2.2.2.2 i ∧ (R k).2.2.2.2.2 i < k := fun i hi => ⟨by have := (hN i hi).2.1; omega, (hN i hi).1⟩
  have hK : dK (dsc R ρ k) = (if (R k).1 = 1 then (if ρ.1 117 k = -1 then 29 else 28) else (R k).1) := rfl
  have hM : dM (dsc R ρ k) = (R k).2.2.1 := rfl
  have hS : dS (dsc R ρ k) = (R k).2.2.2.2.1 := rfl
  have hG : dG (dsc R ρ k) = (ρ.1 123 k).toNatClampNeg := rfl
  have hC : dC (dsc R ρ k) = (R k).2.2.2.2.2 := rfl
  generalize dsc R ρ k = d at *
  generalize (R k).2.2.2.2.2 = cs at *
  generalize (R k).2.2.1 = m at *
  generalize (R k).1 = o at *
  generalize (R k).2.2.2.1 = lo at *
  generalize (R k).2.2.2.2.1 = s at *
  generalize (R k).2.1 = tk at *
  have ho28 : o < 28 := by unfold arOK at c6; omega
  have hcase : (o = 1 ∧ ρ.1 117 k = -1 ∧ dK d = 29) ∨ (o = 1 ∧ ρ.1 117 k = nI s ∧ dK d = 28 ∧ τ.1 33 (k + 1) = nI s ∧ gV G k s ∧ s < lN' g) ∨ (o ≠ 1 ∧ dK d = o) := by
    by_cases z : o = 1
    · rw [if_pos z] at hK
      rcases c15 z with q | ⟨q1, q2, q3⟩
      · rw [if_pos q] at hK; exact Or.inl ⟨z, q, hK⟩
      · have q4 := c21 s q3
        have := gD k k1 (Nat.le_refl _)
        rw [if_neg (by rw [q1]; exact nI_ne_m1 (by omega))] at hK
        exact Or.inr (Or.inl ⟨z, q1, hK, q2, q3, by omega⟩)
    · rw [if_neg z] at hK; exact Or.inr (Or.inr ⟨z, hK⟩)
  have hcall : dK d = 29 → dG d < F ∧ ρ.1 123 k = nI (dG d) ∧ τ.1 33 (k + 1) = nI (dG d) ∧ m ≤ pN (dG d) ∧ lfv (pN (dG d)) m (bN (dG d)) (ty (dG d) m) (ty (dG d) (m + 1)) = nI (wtN ρ k) ∧ ∀ i, i < m → wtN ρ (cs i) = ty (dG d) i := fun z => by
    have h1 : o = 1 ∧ ρ.1 117 k = -1 := by
      rcases hcase with h | h | h
      · exact ⟨h.1, h.2.1⟩
      · omega
      · omega
    unfold okN at hok
    clear c7 c8 c9 c10 c11 c12 c13 c14 c15 c16 c17 c18 c19 c20 c21 c22 c23 c24 hpt hcs hlt hcase hN hF hT hsl hb2 hbd h37 h124 hw hlo c6
    rcases hok with h | h | h | h | h | h | h | h | h | h
    · omega
    · omega
    · omega
    · omega
    · omega
    · omega
    · omega
    · omega
    · exfalso
      have h2 := h.2.1
      rw [h1.2] at h2
      exact nI_ne_m1 (by have := h.2.2.1; omega) h2.symm
    · obtain ⟨_, _, gg, g1, g2, g3, g4, g5, g6⟩ := h
      have e : dG d = gg := by rw [hG, g3]; exact nI_clamp (by omega)
      rw [e]
      exact ⟨g1, g3, g2, g4, g5, g6⟩
  have hK30 : dK d < 30 := by rcases hcase with h | h | h <;> omega
  have hK28 : (if 28 ≤ dK d then 1 else dK d) = o := by
    rcases hcase with h | h | h
    · rw [h.2.2, if_pos (by omega)]; exact h.1.symm
    · rw [h.2.2.1, if_pos (by omega)]; exact h.1.symm
    · rw [h.2, if_neg (by omega)]
  have hk1 : 28 ≤ dK d → o = 1 := fun z => by rw [if_pos z] at hK28; exact hK28.symm
  have hk2 : dK d < 28 → o ≠ 1 ∧ dK d = o := fun z => by rcases hcase with h | h | h <;> omega
  have hs28 : dK d = 28 → ρ.1 117 k = nI s ∧ τ.1 33 (k + 1) = nI s ∧ s < lN' g := fun z => by
    rcases hcase with h | h | h
    · omega
    · exact ⟨h.2.1, h.2.2.2.1, h.2.2.2.2.2⟩
    · omega
  refine ⟨⟨by omega, by omega, fun i hi => ?_, fun i j h1 h2 => ?_, by rw [c7, hK], by rw [hK28]; exact c1, hK30, by rw [hM, hC]; exact c12, fun i hi => ?_, fun h => ?_, fun h1 h2 => ?_, fun h1 h2 => ?_, fun h => ?_, fun h => ?_, fun h => ?_, fun h => ?_, fun h => ?_, c2, c3, c4, by rw [hK28]; exact c5, ?_, ?_, hbd.1⟩, ?_, hw, h37, h124, fun h => by rw [hS]; exact (hs28 h).2.2, fun h => ?_, fun h => ?_, ?_⟩
  · rw [hC]; exact (hpt i (by omega)).2
  · rw [hC]; exact hlt i j h1 (by omega)
  · rw [hC, hM]; exact (hcs i (by omega)).2
  · rw [hC]; exact c16 (by omega)
  · rw [hC]; exact c17 (hk2 h1).1 (by omega)
  · rw [hC]; exact c18 (hk2 h1).1 (by omega)
  · have h1 := hk1 h
    rw [if_pos h1] at c13 c14
    refine ⟨by rw [hM]; exact c13, by rw [hM]; exact c14, fun i hi => ?_⟩
    rw [hC]
    exact (hN i (by omega)).2.2.2.2.2.2.2.1 h1 (by omega)
  · rw [hS]; exact ⟨(hs28 h).1, (hs28 h).2.1⟩
  · refine ⟨?_, (hcall h).2.1, (hcall h).2.2.1⟩
    rcases hcase with q | q | q
    · exact q.2.1
    · omega
    · omega
  · have h1 := hk2 (by omega)
    rw [hS]
    exact ⟨(c19 (by omega)).1, (c19 (by omega)).2.1⟩
  · have h1 := hk2 (by omega)
    rw [hS]
    exact ⟨(c20 (by omega)).1, (c20 (by omega)).2.1, (c20 (by omega)).2.2.1⟩
  · rcases hb2 with ⟨z1, z2⟩ | ⟨s', z1, z2, z3, z4⟩
    · rw [z1, if_pos rfl]; exact z2
    · rw [z1, if_neg (by omega), Nat.add_sub_cancel]; exact z2
  · rcases hb2 with ⟨z1, z2⟩ | ⟨s', z1, z2, z3, z4⟩ <;> omega
  · unfold okT
    rw [hM, hC, hS]
    by_cases z29 : dK d = 29
    · obtain ⟨h1, h2, h3, h4, h5, h6⟩ := hcall z29
      exact Or.inr (Or.inr (Or.inr (Or.inr (Or.inr (Or.inr (Or.inr (Or.inr (Or.inr ⟨z29, h1, h4, h5, h6⟩))))))))
    · unfold okN at hok
      unfold arOK at c6
      rcases hok with h | h | h | h | h | h | h | h | h | h
      · exact Or.inl ⟨by omega, h.2, by omega⟩
      · exact Or.inr (Or.inl ⟨by omega, h.2, by omega⟩)
      · exact Or.inr (Or.inr (Or.inl ⟨by omega, h.2, by omega⟩))
      · exact Or.inr (Or.inr (Or.inr (Or.inl ⟨by omega, by omega, h.2⟩)))
      · exact Or.inr (Or.inr (Or.inr (Or.inr (Or.inl ⟨by omega, by omega, h.2⟩))))
      · exact Or.inr (Or.inr (Or.inr (Or.inr (Or.inr (Or.inl ⟨by omega, by omega, h.2⟩)))))
      · exact Or.inr (Or.inr (Or.inr (Or.inr (Or.inr (Or.inr (Or.inl ⟨by omega, by omega, h.2⟩))))))
      · exact Or.inr (Or.inr (Or.inr (Or.inr (Or.inr (Or.inr (Or.inr (Or.inl ⟨by omega, by omega, h.2⟩)))))))
      · refine Or.inr (Or.inr (Or.inr (Or.inr (Or.inr (Or.inr (Or.inr (Or.inr (Or.inl ⟨?_, h.2.2.2⟩))))))))
        rcases hcase with q | q | q
        · omega
        · exact q.2.2.1
        · omega
      · exfalso
        rcases hcase with q | q | q
        · omega
        · exact nI_ne_m1 (by have := q.2.2.2.2.2; omega) (q.2.1.symm.trans h.2.1)
        · omega
  · have h1 := hk2 (by omega)
    have hm : 0 < m := by unfold arOK at c6; omega
    obtain ⟨n1, n2, _, _, _, _, _, _, _, n10⟩ := hN 0 hm
    rw [if_pos rfl, if_pos ⟨by omega, rfl⟩] at n10
    have := gD (cs 0) (hpt 0 hm).1 (by omega)
    have := (c19 (by omega)).2.2
    rw [hS]; omega
  · have h1 := hk2 (by omega)
    have hm : m = 3 := by unfold arOK at c6; omega
    obtain ⟨n1, n2, _, _, _, _, _, _, _, n10⟩ := hN 2 (by omega)
    rw [if_neg (by omega), if_neg (by omega), if_pos ⟨by omega, rfl⟩] at n10
    have := gD (cs 2) (hpt 2 (by omega)).1 (by omega)
    have := (c20 (by omega)).2.2.2
    rw [hS]
    have e : cs (2 - 1) = cs 1 := rfl
    rw [e] at n10
    omega
  · rcases hb2 with ⟨z1, z2⟩ | ⟨s', z1, z2, z3, z4⟩
    · exact Or.inl z1
    · rw [z1, Nat.add_sub_cancel]; exact Or.inr ⟨z3, z4⟩
