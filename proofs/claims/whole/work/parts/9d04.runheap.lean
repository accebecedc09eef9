/-! RUNS, 4: the heap, as it is meant. -/
abbrev aV : Type := Nat × Int32
/-- put-offs; cells; partials; got; frames; locals; whose a node is -/
abbrev jHp : Type := (Nat × (Nat → Nat) × (Nat → Nat) × (Nat → Nat) × (Nat → aV)) × (Nat × (Nat → aV) × (Nat → aV)) × (Nat × (Nat → aV) × (Nat → Nat) × (Nat → Nat) × (Nat → Nat) × (Nat → Nat)) × (Nat × (Nat → aV)) × (Nat × (Nat → Nat) × (Nat → Nat) × Nat) × ((Nat → Nat → aV) × (Nat → Nat → Prop)) × (Nat → Nat → Nat)
def jPn (H : jHp) : Nat := H.1.1
def jPk (H : jHp) : Nat → Nat := H.1.2.1
def jPf (H : jHp) : Nat → Nat := H.1.2.2.1
def jPs (H : jHp) : Nat → Nat := H.1.2.2.2.1
def jPv (H : jHp) : Nat → aV := H.1.2.2.2.2
def jCn (H : jHp) : Nat := H.2.1.1
def jCf (H : jHp) : Nat → aV := H.2.1.2.1
def jCs (H : jHp) : Nat → aV := H.2.1.2.2
def jGn (H : jHp) : Nat := H.2.2.1.1
def jGo (H : jHp) : Nat → aV := H.2.2.1.2.1
def jGf (H : jHp) : Nat → Nat := H.2.2.1.2.2.1
def jGs (H : jHp) : Nat → Nat := H.2.2.1.2.2.2.1
def jGg (H : jHp) : Nat → Nat := H.2.2.1.2.2.2.2.1
def jGt (H : jHp) : Nat → Nat := H.2.2.1.2.2.2.2.2
def jAn (H : jHp) : Nat := H.2.2.2.1.1
def jAv (H : jHp) : Nat → aV := H.2.2.2.1.2
def jFn (H : jHp) : Nat := H.2.2.2.2.1.1
def jFb (H : jHp) : Nat → Nat := H.2.2.2.2.1.2.1
def jFf (H : jHp) : Nat → Nat := H.2.2.2.2.1.2.2.1
def jFe (H : jHp) : Nat := H.2.2.2.2.1.2.2.2
def jLv (H : jHp) : Nat → Nat → aV := H.2.2.2.2.2.1.1
def jLb (H : jHp) : Nat → Nat → Prop := H.2.2.2.2.2.1.2
def jOw (H : jHp) : Nat → Nat → Nat := H.2.2.2.2.2.2
/-- a value of a type -/
def VT (F : Nat) (pN bN : Nat → Nat) (ty : Nat → Nat → Nat) (W : Nat → Nat) (H : jHp) (t : Nat) (v : aV) : Prop :=
  (v.1 = 0 ∧ t = 0) ∨ (v.1 = 1 ∧ t = 1) ∨ (v.1 = 2 ∧ t = 1 ∧ ∃ c, c < jCn H ∧ v.2 = nI c) ∨ (v.1 = 3 ∧ ∃ i, i < jPn H ∧ v.2 = nI i ∧ W (jPk H i) = t) ∨
  (v.1 = 4 ∧ 2 ≤ t ∧ ∃ g, g < F ∧ v.2 = nI g ∧ lfv (pN g) 0 (bN g) (ty g 0) (ty g 1) = nI t) ∨
  (v.1 = 5 ∧ 2 ≤ t ∧ ∃ p, p < jGn H ∧ v.2 = nI p ∧ lfv (pN (jGg H p)) (jGt H p) (bN (jGg H p)) (ty (jGg H p) (jGt H p)) (ty (jGg H p) (jGt H p + 1)) = nI t)
/-- the heap in both: put-offs -/
def RPu (H : jHp) (pd : Nat) (an : aV) (τ ρ : jx_S) : Prop := τ.1 9 12 = nI (jPn H) ∧ ρ.1 106 67 = nI (jPn H) ∧ ∀ i, i < jPn H → (τ.1 89 i = nI (jPk H i + 1) ∧ ρ.1 151 i = nI (jPk H i)) ∧ (τ.1 91 i = nI (jFb H (jPf H i)) ∧ ρ.1 152 i = nI (jFb H (jPf H i))) ∧ (τ.1 93 i = nI (jPs H i) ∧ ρ.1 153 i = nI (if pd = i + 1 then 2 else jPs H i)) ∧ (jPs H i = 2 → τ.2 95 i = cV (jPv H i) ∧ ρ.2 154 i = rV (jPv H i)) ∧ (pd = i + 1 → ρ.2 154 i = rV an)
def RCe (H : jHp) (τ ρ : jx_S) : Prop := τ.1 9 11 = nI (jCn H) ∧ ρ.1 106 70 = nI (jCn H) ∧ ∀ c, c < jCn H → (τ.2 85 c = cV (jCf H c) ∧ ρ.2 155 c = rV (jCf H c)) ∧ τ.2 87 c = cV (jCs H c) ∧ ρ.2 156 c = rV (jCs H c)
def RPa (H : jHp) (τ ρ : jx_S) : Prop := τ.1 9 16 = nI (jGn H) ∧ ρ.1 106 74 = nI (jGn H) ∧ ∀ p, p < jGn H → (τ.2 101 p = cV (jGo H p) ∧ ρ.2 157 p = rV (jGo H p)) ∧ (τ.1 103 p = nI (jGf H p) ∧ ρ.1 158 p = nI (jGf H p)) ∧ τ.1 105 p = nI (jGs H p) ∧ ρ.1 159 p = nI (jGs H p)
def RGo (H : jHp) (gd : Nat → Prop) (τ ρ : jx_S) : Prop := τ.1 9 15 = nI (jAn H) ∧ ρ.1 106 76 = nI (jAn H) ∧ ∀ a, a < jAn H → gd a → τ.2 99 a = cV (jAv H a) ∧ ρ.2 160 a = rV (jAv H a)
def RLo (lN' : Nat → Nat) (H : jHp) (τ ρ : jx_S) : Prop := τ.1 9 14 = nI (jFe H) ∧ ρ.1 106 62 = nI (jFe H) ∧ ∀ φ, φ < jFn H → ∀ s, s < lN' (jFf H φ) → jLb H φ s → τ.2 97 (jFb H φ + s) = cV (jLv H φ s) ∧ ρ.2 150 (jFb H φ + s) = rV (jLv H φ s)
/-- what holds of a heap -/
def HIf (F : Nat) (lN' : Nat → Nat) (H : jHp) : Prop := jFe H ≤ 30000 ∧ ∀ φ, φ < jFn H → jFf H φ < F ∧ jFb H φ + lN' (jFf H φ) ≤ jFe H ∧ ∀ ψ, ψ < φ → jFb H ψ + lN' (jFf H ψ) ≤ jFb H φ
def HIp (G : jGh) (F : Nat) (nS pN bN : Nat → Nat) (ty : Nat → Nat → Nat) (W : Nat → Nat) (D : Nat → jDs) (LO : Nat → Nat) (H : jHp) : Prop := jPn H ≤ 3000 ∧ ∀ i, i < jPn H → (jPf H i < jFn H ∧ nS (jFf H (jPf H i)) ≤ jPk H i ∧ jPk H i < nS (jFf H (jPf H i) + 1)) ∧ W (jPk H i) < 2 ∧ jPs H i < 3 ∧ (∀ s, gV G (jPk H i) s → jLb H (jPf H i) s) ∧ (jPs H i = 0 → ∀ c, LO (jPk H i) ≤ c → c ≤ jPk H i → jOw H c (jPf H i) = 2 * i + 2) ∧ (jPs H i = 2 → (jPv H i).1 < 3 ∧ VT F pN bN ty W H (W (jPk H i)) (jPv H i)) ∧ (dK (D (jPk H i)) = 28 → 0 < dM (D (jPk H i)))
def HIl (F : Nat) (nS pN bN lN' : Nat → Nat) (ty : Nat → Nat → Nat) (W : Nat → Nat) (D : Nat → jDs) (H : jHp) : Prop := (∀ φ, φ < jFn H → ∀ s, s < lN' (jFf H φ) → jLb H φ s → VT F pN bN ty W H (ty (jFf H φ) s) (jLv H φ s)) ∧ ∀ φ, φ < jFn H → ∀ k, nS (jFf H φ) ≤ k → k < nS (jFf H φ + 1) → jOw H k φ ≠ 0 → ∀ s, bsD D k s → ¬ jLb H φ s
def HIc (F : Nat) (pN bN : Nat → Nat) (ty : Nat → Nat → Nat) (W : Nat → Nat) (H : jHp) : Prop := jCn H ≤ 3000 ∧ ∀ c, c < jCn H → VT F pN bN ty W H 0 (jCf H c) ∧ VT F pN bN ty W H 1 (jCs H c)
def HIg (F : Nat) (pN bN : Nat → Nat) (ty : Nat → Nat → Nat) (W : Nat → Nat) (H : jHp) (gd : Nat → Prop) : Prop := jGn H ≤ jAn H ∧ jAn H ≤ 6000 ∧ ∀ p, p < jGn H → (jGg H p < F ∧ 1 ≤ jGs H p ∧ jGs H p ≤ jGt H p ∧ jGt H p ≤ pN (jGg H p) ∧ jGf H p + jGs H p ≤ jAn H ∧ ∀ p', p' < p → jGf H p' + jGs H p' ≤ jGf H p) ∧ ((jGo H p = (4, nI (jGg H p)) ∧ jGt H p = jGs H p) ∨ ∃ q, q < p ∧ jGo H p = (5, nI q) ∧ jGg H q = jGg H p ∧ jGt H p = jGt H q + jGs H p) ∧ ∀ i, i < jGs H p → gd (jGf H p + i) → VT F pN bN ty W H (ty (jGg H p) (jGt H p - jGs H p + i)) (jAv H (jGf H p + i))
/-- a heap that has grown -/
def HX (H H' : jHp) : Prop := (jPn H ≤ jPn H' ∧ (∀ i, i < jPn H → jPk H' i = jPk H i ∧ jPf H' i = jPf H i)) ∧ (jCn H ≤ jCn H') ∧ (jGn H ≤ jGn H' ∧ ∀ p, p < jGn H → jGg H' p = jGg H p ∧ jGt H' p = jGt H p ∧ jGf H' p = jGf H p ∧ jGs H' p = jGs H p ∧ jGo H' p = jGo H p)
theorem HX_refl {H : jHp} : HX H H := ⟨⟨Nat.le_refl _, fun _ _ => ⟨rfl, rfl⟩⟩, Nat.le_refl _, Nat.le_refl _, fun _ _ => ⟨rfl, rfl, rfl, rfl, rfl⟩⟩
theorem HX_trans {H H1 H2 : jHp} (h : HX H H1) (k : HX H1 H2) : HX H H2 := by
  obtain ⟨⟨a1, a2⟩, a3, a4, a5⟩ := h
  obtain ⟨⟨b1, b2⟩, b3, b4, b5⟩ := k
  refine ⟨⟨by omega, fun i hi => ?_⟩, by omega, by omega, fun p hp => ?_⟩
  · have u := a2 i hi
    have v := b2 i (by omega)
    exact ⟨v.1.trans u.1, v.2.trans u.2⟩
  · have u := a5 p hp
    have v := b5 p (by omega)
    exact ⟨v.1.trans u.1, v.2.1.trans u.2.1, v.2.2.1.trans u.2.2.1, v.2.2.2.1.trans u.2.2.2.1, v.2.2.2.2.trans u.2.2.2.2⟩
theorem VT_grow {F : Nat} {pN bN : Nat → Nat} {ty : Nat → Nat → Nat} {W : Nat → Nat} {H H' : jHp} (h : HX H H') {t : Nat} {v : aV} (hv : VT F pN bN ty W H t v) : VT F pN bN ty W H' t v := by
  obtain ⟨⟨a1, a2⟩, a3, a4, a5⟩ := h
  rcases hv with hv | hv | ⟨h1, h2, c, h3, h4⟩ | ⟨h1, i, h2, h3, h4⟩ | hv | ⟨h1, h2, p, h3, h4, h5⟩
  · exact Or.inl hv
  · exact Or.inr (Or.inl hv)
  · exact Or.inr (Or.inr (Or.inl ⟨h1, h2, c, by omega, h4⟩))
  · exact Or.inr (Or.inr (Or.inr (Or.inl ⟨h1, i, by omega, h3, by rw [(a2 i h2).1]; exact h4⟩)))
  · exact Or.inr (Or.inr (Or.inr (Or.inr (Or.inl hv))))
  · exact Or.inr (Or.inr (Or.inr (Or.inr (Or.inr ⟨h1, h2, p, by omega, h4, by rw [(a5 p h3).1, (a5 p h3).2.1]; exact h5⟩))))
/-- types of what lacks parameters -/
theorem lfv_dec {n m b t1 t2 t : Nat} (hb : b < 2) (ht : t < 14) (h : lfv n m b t1 t2 = nI t) (h2 : 2 ≤ t) : n - m = tyA t ∧ t1 = tyP t 0 ∧ (tyA t = 2 → t2 = tyP t 1) ∧ b = t % 2 := by
  unfold lfv at h
  by_cases q0 : n - m = 0
  · rw [if_pos q0] at h
    have := (nI_eq (by omega) (by omega)).1 h
    omega
  · rw [if_neg q0] at h
    by_cases q1 : n - m = 1
    · rw [if_pos q1] at h
      by_cases z : t1 < 2
      · rw [if_pos z] at h
        have := (nI_eq (by omega) (by omega)).1 h
        unfold tyA tyP
        rw [if_neg (by omega), if_pos (by omega), if_neg (by omega), if_pos (by omega), if_pos rfl]
        exact ⟨q1, by omega, fun q => by omega, by omega⟩
      · rw [if_neg z] at h
        exact absurd h.symm (nI_ne_m1 (by omega))
    · rw [if_neg q1] at h
      by_cases q2 : n - m = 2
      · rw [if_pos q2] at h
        by_cases z : t1 < 2 ∧ t2 < 2
        · rw [if_pos z] at h
          have := (nI_eq (by omega) (by omega)).1 h
          unfold tyA tyP
          rw [if_neg (by omega), if_neg (by omega), if_neg (by omega), if_neg (by omega), if_pos rfl, if_neg (by omega), if_neg (by omega), if_neg (by omega), if_pos rfl]
          exact ⟨q2, by omega, fun _ => by omega, by omega⟩
        · rw [if_neg z] at h
          exact absurd h.symm (nI_ne_m1 (by omega))
      · rw [if_neg q2] at h
        exact absurd h.symm (nI_ne_m1 (by omega))
theorem lfv_base {n m b t1 t2 t : Nat} (ht : t < 2) (h : lfv n m b t1 t2 = nI t) (hb : b < 2) (h1 : t1 < 14) (h2 : t2 < 14) : n - m = 0 ∧ b = t := by
  unfold lfv at h
  by_cases q0 : n - m = 0
  · rw [if_pos q0] at h
    exact ⟨q0, (nI_eq (by omega) (by omega)).1 h⟩
  · rw [if_neg q0] at h
    exfalso
    by_cases q1 : n - m = 1
    · rw [if_pos q1] at h
      split at h
      · have := (nI_eq (by omega) (by omega)).1 h; omega
      · exact absurd h.symm (nI_ne_m1 (by omega))
    · rw [if_neg q1] at h
      by_cases q2 : n - m = 2
      · rw [if_pos q2] at h
        split at h
        · have := (nI_eq (by omega) (by omega)).1 h; omega
        · exact absurd h.symm (nI_ne_m1 (by omega))
      · rw [if_neg q2] at h
        exact absurd h.symm (nI_ne_m1 (by omega))
