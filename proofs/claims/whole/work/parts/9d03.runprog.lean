/-! RUNS, 3: the program that runs: what its nodes and functions are in both. -/
/-- the node k binds the slot s -/
abbrev bsD (D : Nat → jDs) (k s : Nat) : Prop := (dK (D k) = 5 ∧ s = dS (D k)) ∨ (dK (D k) = 10 ∧ (s = dS (D k) ∨ s = dS (D k) + 1))
def RNd (E : jEn) (G : jGh) (F : Nat) (nS pN bN lN' : Nat → Nat) (ty : Nat → Nat → Nat) (W : Nat → Nat) (D : Nat → jDs) (tk LO : Nat → Nat) (sl sp : Nat → Nat → Nat) (g : Nat) (τ ρ : jx_S) (k : Nat) : Prop :=
  AN E τ ρ k (tk k) (D k) ∧ okT F pN bN ty g W (D k) k ∧ W k < 14 ∧ τ.1 37 (k + 1) = nI (W k) ∧ ρ.1 124 k = nI (W k) ∧
  (dK (D k) = 2 → (τ.2 19 (tk k)).toInt32 = ρ.1 111 (tk k)) ∧
  (dK (D k) = 5 → dS (D k) < lN' g ∧ τ.1 39 (k + 1) = nI (sl g k) ∧ ρ.1 125 k = nI (sl g k) ∧ sl g k < 2 ∧ ty g (dS (D k)) < 2) ∧
  (dK (D k) = 10 → dS (D k) + 1 < lN' g ∧ ty g (dS (D k)) = 0 ∧ ty g (dS (D k) + 1) = 1) ∧
  (dK (D k) = 28 → dS (D k) < lN' g ∧ gV G k (dS (D k))) ∧
  (∀ s, gV G k s → s < lN' g) ∧
  (nS g ≤ LO k ∧ LO k ≤ k ∧ (dM (D k) = 0 → LO k = k) ∧ (0 < dM (D k) → dC (D k) (dM (D k) - 1) + 1 = k)) ∧
  (∀ i, i < dM (D k) → LO k ≤ dC (D k) i ∧ LO (dC (D k) i) = (if i = 0 then LO k else dC (D k) (i - 1) + 1) ∧ (∀ s, gV G (dC (D k) i) s → gV G k s ∨ bnd (dK (D k)) i (dS (D k)) s) ∧ (28 ≤ dK (D k) → gA G (dC (D k) i) + 1 ≤ gA G k)) ∧
  (∀ s, bsD D k s → pN g ≤ s ∧ ∀ k', nS g ≤ k' → k' < nS (g + 1) → bsD D k' s → k' = k)
def RFn (E : jEn) (G : jGh) (F : Nat) (nS pN bN lN' : Nat → Nat) (ty : Nat → Nat → Nat) (W : Nat → Nat) (D : Nat → jDs) (tk LO : Nat → Nat) (sl sp : Nat → Nat → Nat) (τ ρ : jx_S) (g : Nat) : Prop :=
  (nS g < nS (g + 1) ∧ nS (g + 1) ≤ 1200 ∧ W (nS (g + 1) - 1) = bN g ∧ bN g < 2 ∧ LO (nS (g + 1) - 1) = nS g) ∧
  (pN g ≤ 8 ∧ pN g ≤ lN' g ∧ lN' g ≤ 30 ∧ (∀ i, i < lN' g → ty g i < 14) ∧ ∀ s, gV G (nS (g + 1) - 1) s → s < pN g) ∧
  (τ.1 43 g = nI (pN g) ∧ τ.1 45 g = nI (bN g) ∧ τ.1 47 g = nI (lN' g) ∧ τ.1 51 g = nI (nS (g + 1)) ∧ ∀ i, i < pN g → τ.1 59 (30 * g + i) = nI (sp g i) ∧ sp g i < 2 ∧ (sp g i = 1 → ty g i < 2)) ∧
  (ρ.1 127 g = nI (pN g) ∧ ρ.1 128 g = nI (bN g) ∧ ρ.1 129 g = nI (lN' g) ∧ ρ.1 131 g = nI (nS (g + 1) - 1) ∧ ∀ i, i < pN g → ρ.1 136 (8 * g + i) = nI (sp g i)) ∧
  ∀ k, nS g ≤ k → k < nS (g + 1) → RNd E G F nS pN bN lN' ty W D tk LO sl sp g τ ρ k
def RP (E : jEn) (G : jGh) (F : Nat) (nS pN bN lN' : Nat → Nat) (ty : Nat → Nat → Nat) (W : Nat → Nat) (D : Nat → jDs) (tk LO : Nat → Nat) (sl sp : Nat → Nat → Nat) (τ ρ : jx_S) : Prop := F ≤ 40 ∧ eC E ≤ 1200 ∧ ∀ g, g < F → RFn E G F nS pN bN lN' ty W D tk LO sl sp τ ρ g
theorem bs_of {R : Nat → jRw} {ρ : jx_S} {k s : Nat} (h : bsD (dsc R ρ) k s) : bsN R k s := by
  have hK : dK (dsc R ρ k) = (if (R k).1 = 1 then (if ρ.1 117 k = -1 then 29 else 28) else (R k).1) := rfl
  unfold bsD at h
  rw [hK] at h
  by_cases z : (R k).1 = 1
  · rw [if_pos z] at h
    rcases h with ⟨h, _⟩ | ⟨h, _⟩ <;> (split at h <;> omega)
  · rw [if_neg z] at h
    exact h
theorem rp_of {E : jEn} {G : jGh} {F : Nat} {nS tS : Nat → Nat} {R : Nat → jRw} {pN bN lN' : Nat → Nat} {ty V : Nat → Nat → Nat} {τ ρ : jx_S} (h : US E G F nS tS R pN bN lN' ty V τ ρ) : RP E G F nS pN bN lN' ty (wtN ρ) (dsc R ρ) (fun k => (R k).2.1) (fun k => (R k).2.2.2.1) (slet pN ty V (dsc R ρ)) (spar pN ty V) τ ρ := by
  obtain ⟨hE, hEC, hER, hEV, hAP, hAN, ⟨hn0, hm⟩, hUF, _⟩ := h
  obtain ⟨_, _, _, _, hCJ, hRJ⟩ := hAN
  refine ⟨hAP.1, hE.1, fun g hg => ?_⟩
  obtain ⟨hRaw, hok, ⟨b1, b2, b3, b4, b5, b6, b7, b8⟩, ⟨hvis, hgB⟩, hcs⟩ := hUF g hg
  obtain ⟨⟨a1, a2, a3⟩, hnd, ⟨c1, c2, c3, c4, c5, c6⟩, ⟨d1, d2, d3, d4, d5, d6, d7⟩, e1, e2, e3, e4, e5⟩ := hAP.2.2.2.2 g hg
  have hsl := slots (by omega) hRaw
  have hsp : ∀ i, i < pN g → spar pN ty V g i < 2 := fun i hi => by unfold spar; split <;> omega
  have hroot : (R (nS (g + 1) - 1)).2.2.2.1 = nS g := by
    obtain ⟨⟨hS, _⟩, hlo, _⟩ := hRaw.1 (nS (g + 1) - 1) (by omega) (by omega)
    -- the root's subtree is all of the function
    have hall : ∀ k, nS g ≤ k → k < nS (g + 1) → (R (nS (g + 1) - 1)).2.2.2.1 ≤ k := by
      have hd : ∀ d k, nS (g + 1) - 1 - k = d → nS g ≤ k → k < nS (g + 1) → (R (nS (g + 1) - 1)).2.2.2.1 ≤ k := by
        intro d
        induction d using Nat.strongRecOn with
        | ind d ih =>
          intro k hk k1 k2
          by_cases z : k + 1 < nS (g + 1)
          · obtain ⟨_, _, hp⟩ := hRaw.1 k k1 k2
            obtain ⟨p, i, p1, p2, p3, p4⟩ := hp z
            have hpp := ih (nS (g + 1) - 1 - p) (by omega) p rfl (by omega) p2
            obtain ⟨⟨_, hC, _⟩, _, _⟩ := hRaw.1 p (by omega) p2
            have h2 := (hC i p3).2.1
            have h3 := hRaw.2 (nS (g + 1) - 1) (by omega) (by omega) p (by omega) hpp
            omega
          · have : k = nS (g + 1) - 1 := by omega
            subst this
            exact hS.2.2.2.2.2.2.2.2.1
      exact fun k k1 k2 => hd _ k rfl k1 k2
    have := hall (nS g) (Nat.le_refl _) a1
    omega
  refine ⟨⟨a1, a2, b8, b3, hroot⟩, ⟨e1, e2, e3, e5, hvis⟩, ⟨c1, b1, c2, c4, fun i hi => ⟨hCJ.1 g hg i hi, hsp i hi, fun q => by
    unfold spar at q
    split at q
    · rename_i z; exact z.1
    · omega⟩⟩, ⟨d1, b2, d2, d4, fun i hi => hRJ.1 g hg i hi⟩, fun k k1 k2 => ?_⟩
  obtain ⟨hA, hD, hlo2, hlet⟩ := hnd k k1 k2
  obtain ⟨hT, hW⟩ := hok k k1 k2
  obtain ⟨⟨hS, hC, hW', h37, h124, hoN⟩, hlo, _⟩ := hRaw.1 k k1 k2
  have hK : dK (dsc R ρ k) = (if (R k).1 = 1 then (if ρ.1 117 k = -1 then 29 else 28) else (R k).1) := rfl
  obtain ⟨s1, s2, s3, s4, s5, s6, s7, s8, s9, s10, s11, s12, s13, s14, s15, s16, s17, s18, s19, s20, s21, s22, s23, s24⟩ := hS
  obtain ⟨hcsk, hgD⟩ := hcs k k1 k2
  have hgV : ∀ s, gV G k s → s < lN' g := fun s hs => by
    have q1 := s21 s hs
    omega
  have ho28 : (R k).1 < 28 := by unfold arOK at s6; omega
  have hcase : ((R k).1 = 1 ∧ ρ.1 117 k = -1 ∧ dK (dsc R ρ k) = 29) ∨ ((R k).1 = 1 ∧ ρ.1 117 k ≠ -1 ∧ dK (dsc R ρ k) = 28) ∨ ((R k).1 ≠ 1 ∧ dK (dsc R ρ k) = (R k).1) := by
    rw [hK]
    by_cases z : (R k).1 = 1
    · rw [if_pos z]
      by_cases y : ρ.1 117 k = -1
      · rw [if_pos y]; exact Or.inl ⟨z, y, rfl⟩
      · rw [if_neg y]; exact Or.inr (Or.inl ⟨z, y, rfl⟩)
    · rw [if_neg z]; exact Or.inr (Or.inr ⟨z, rfl⟩)
  refine ⟨hA, hT, hW, h37, h124, fun q => ?_, fun q => ?_, fun q => ?_, fun q => ?_, hgV, ⟨hlo, s9, s10, s11⟩, fun i hi => ?_, fun s hs => ?_⟩
  · exact hEV _ s4 (by
      rw [s5]
      rcases hcase with ⟨z, _, y⟩ | ⟨z, _, y⟩ | ⟨z, y⟩ <;> omega)
  · have o5 : (R k).1 = 5 := by
      rcases hcase with ⟨z, _, y⟩ | ⟨z, _, y⟩ | ⟨z, y⟩ <;> omega
    have hdl : (R k).2.2.2.2.1 < lN' g := (hlet q).2.1
    refine ⟨hdl, hCJ.2.2 g hg k k1 k2 q, hRJ.2 g hg k k1 k2 q, by unfold slet; omega, ?_⟩
    obtain ⟨s', y, w1, w2, w3, w4⟩ := hcsk.2 (by rw [s1, o5])
    have v1 := (s19 o5).1
    have es : s' = (R k).2.2.2.2.1 := by
      rw [w1] at v1
      exact (nI_eq (by omega) (by omega)).1 v1
    subst es
    have u1 := c6 (R k).2.2.2.2.1 hdl
    have t1 := e5 (R k).2.2.2.2.1 hdl
    rw [w4] at u1
    have := (nI_eq (by omega) (by omega)).1 u1
    show ty g (R k).2.2.2.2.1 < 2
    omega
  · have o10 : (R k).1 = 10 := by
      rcases hcase with ⟨z, _, y⟩ | ⟨z, _, y⟩ | ⟨z, y⟩ <;> omega
    obtain ⟨s', w1, w2, w3, w4⟩ := hcsk.1 (by rw [s1, o10])
    obtain ⟨v1, _⟩ := s20 o10
    have es : s' = (R k).2.2.2.2.1 := by
      rw [w1] at v1
      have := (s20 o10).2.2.2
      have hc := hC 1 (by unfold arOK at s6; omega)
      exact (nI_eq (by omega) (by
        have hg2 := (hcs ((R k).2.2.2.2.2 1) (by have := hc.2.1; omega) (by have := hc.1; omega)).2
        omega)).1 v1
    subst es
    have t1 := e5 (R k).2.2.2.2.1 (by omega)
    have t2 := e5 ((R k).2.2.2.2.1 + 1) w2
    have u1 := c6 (R k).2.2.2.2.1 (by omega)
    have u2 := c6 ((R k).2.2.2.2.1 + 1) w2
    rw [w3] at u1
    rw [w4] at u2
    exact ⟨w2, ((nI_eq (by omega) (by omega)).1 u1).symm, ((nI_eq (by omega) (by omega)).1 u2).symm⟩
  · have o1 : (R k).1 = 1 ∧ ρ.1 117 k ≠ -1 := by
      rcases hcase with ⟨z, _, y⟩ | ⟨z, w, y⟩ | ⟨z, y⟩
      · omega
      · exact ⟨z, w⟩
      · omega
    rcases s15 o1.1 with w | ⟨w1, w2, w3⟩
    · exact absurd w o1.2
    · exact ⟨hgV _ w3, w3⟩
  · obtain ⟨n1, n2, n3, n4, n5, n6, n7, n8, n9, n10, n11⟩ := hC i hi
    obtain ⟨⟨hS', _⟩, _, _⟩ := hRaw.1 ((R k).2.2.2.2.2 i) (by omega) (by omega)
    have e := hS'.2.2.2.2.2.2.2.1
    have l := hS'.2.2.2.2.2.2.2.2.1
    rw [n3] at e
    have e2 := (nI_eq (by
      by_cases z : i = 0
      · rw [if_pos z]; omega
      · rw [if_neg z]; have := n4 (by omega); omega) (by omega)).1 e
    refine ⟨n2, e2.symm, fun s hs => ?_, fun q => n11 (by
      rcases hcase with ⟨z, _, y⟩ | ⟨z, _, y⟩ | ⟨z, y⟩ <;> omega)⟩
    rcases n9 s hs with w | w
    · exact Or.inl w
    · right
      have hne : (R k).1 ≠ 1 := by unfold bnd at w; omega
      have : dK (dsc R ρ k) = (R k).1 := by
        rcases hcase with ⟨z, _⟩ | ⟨z, _⟩ | ⟨z, y⟩
        · exact absurd z hne
        · exact absurd z hne
        · exact y
      rw [this]; exact w
  · have hb := bs_of hs
    obtain ⟨q1, q2⟩ := hsl (nS (g + 1) - 1) (by omega) (by omega) k s (by rw [hroot]; exact k1) (by omega) hb
    refine ⟨?_, fun k' p1 p2 p3 => q2 k' (by rw [hroot]; exact p1) (by omega) (bs_of p3)⟩
    have := hgB
    omega
