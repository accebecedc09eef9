/-! ANALYSIS, 4: the nodes' data: kinds, parts, slots. -/
def Raw0 (E : jEn) (G : jGh) (F : Nat) (pN bN : Nat → Nat) (ty : Nat → Nat → Nat) (f : Nat) (τ ρ : jx_S) (k : Nat) (R : jRw) : Prop := NdS E G τ ρ k R.1 R.2.1 R.2.2.1 R.2.2.2.1 R.2.2.2.2.1 R.2.2.2.2.2 ∧ (∀ i, i < R.2.2.1 → NdC E G τ ρ k R.1 R.2.2.1 R.2.2.2.1 R.2.2.2.2.1 R.2.2.2.2.2 i) ∧ ∃ w wt, w < 14 ∧ τ.1 37 (k + 1) = nI w ∧ ρ.1 124 k = nI w ∧ okN F pN bN ty f R.1 R.2.2.1 R.2.2.2.2.1 w wt (τ.1 33 (k + 1)) (ρ.1 117 k) (ρ.1 123 k) ∧ ∀ i, i < R.2.2.1 → wt i < 14 ∧ τ.1 37 (R.2.2.2.2.2 i + 1) = nI (wt i)
theorem raw0_of {E : jEn} {G : jGh} {F : Nat} {nS pN bN : Nat → Nat} {ty : Nat → Nat → Nat} {τ ρ : jx_S} (hm : ∀ g h, g ≤ h → h ≤ F → nS g ≤ nS h) (hD : ∀ g, g < F → ∀ k, nS g ≤ k → k < nS (g + 1) → TyD E G F pN bN ty g τ ρ k) : ∃ R : Nat → jRw, ∀ g, g < F → ∀ k, nS g ≤ k → k < nS (g + 1) → Raw0 E G F pN bN ty g τ ρ k (R k) := by
  have h : ∀ k, ∃ r : jRw, ∀ g, g < F → nS g ≤ k → k < nS (g + 1) → Raw0 E G F pN bN ty g τ ρ k r := by
    intro k
    rcases Classical.em (∃ g, g < F ∧ nS g ≤ k ∧ k < nS (g + 1)) with ⟨g, h1, h2, h3⟩ | h
    · obtain ⟨o, tk, m, lo, s, cs, w, wt, a1, a2, a3, a4, a5, a6, a7⟩ := hD g h1 k h2 h3
      refine ⟨(o, tk, m, lo, s, cs), fun g' k1 k2 k3 => ?_⟩
      have : g' = g := by
        rcases Nat.lt_trichotomy g g' with z | z | z
        · have := hm (g + 1) g' (by omega) (by omega); omega
        · exact z.symm
        · have := hm (g' + 1) g (by omega) (by omega); omega
      subst this
      exact ⟨a1, a2, w, wt, a3, a4, a5, a6, a7⟩
    · exact ⟨(0, 0, 0, 0, 0, fun _ => 0), fun g h1 h2 h3 => absurd ⟨g, h1, h2, h3⟩ h⟩
  exact ⟨fun k => Classical.choose (h k), fun g h1 k h2 h3 => Classical.choose_spec (h k) g h1 h2 h3⟩
/-- a function's nodes, with chosen data -/
def RawF (E : jEn) (G : jGh) (F : Nat) (nS pN bN : Nat → Nat) (ty : Nat → Nat → Nat) (R : Nat → jRw) (τ ρ : jx_S) (g : Nat) : Prop := (∀ k, nS g ≤ k → k < nS (g + 1) → RawR E G F pN bN ty g τ ρ k (R k) ∧ nS g ≤ (R k).2.2.2.1 ∧ (k + 1 < nS (g + 1) → ∃ p i, k < p ∧ p < nS (g + 1) ∧ i < (R p).2.2.1 ∧ (R p).2.2.2.2.2 i = k)) ∧ ∀ x, nS g ≤ x → x < nS (g + 1) → ∀ k, k ≤ x → (R x).2.2.2.1 ≤ k → (R x).2.2.2.1 ≤ (R k).2.2.2.1
theorem raw_of {E : jEn} {G : jGh} {F : Nat} {nS pN bN lN' tk' : Nat → Nat} {ty : Nat → Nat → Nat} {τ ρ : jx_S} (hm : ∀ g h, g ≤ h → h ≤ F → nS g ≤ nS h) (hm1 : ∀ g, g < F → nS g < nS (g + 1)) (hN : ∀ g, g < F → nS (g + 1) ≤ 1200) (hT : TyAll E G F nS pN bN lN' tk' ty τ ρ) : ∃ R : Nat → jRw, ∀ g, g < F → RawF E G F nS pN bN ty R τ ρ g := by
  obtain ⟨R, hR⟩ := raw0_of hm (fun g hg => (hT.2 g hg).2.2.1)
  refine ⟨R, fun g hg => ?_⟩
  have hs := hm1 g hg
  have hb := hN g hg
  obtain ⟨f1, f2, f3, f4, f5, f6, f7, f8⟩ := (hT.2 g hg).1
  have e0 : (R (nS (g + 1) - 1)).2.2.2.1 = nS g := by
    have h1 := hR g hg (nS (g + 1) - 1) (by omega) (by omega)
    refine (nI_eq ?_ (by omega)).mp (h1.1.2.2.2.2.2.2.2.1.symm.trans f5)
    have := h1.1.2.2.2.2.2.2.2.2.1; omega
  have hB := nd_below (R := R) (nS (g + 1) - 1) (by omega) (fun k k1 k2 => by
    rw [e0] at k2
    have := hR g hg k k2 (by omega)
    exact ⟨this.1, this.2.1⟩)
  rw [e0] at hB
  have hlo : ∀ k, nS g ≤ k → k < nS (g + 1) → nS g ≤ (R k).2.2.2.1 := fun k k1 k2 => (hB k (by omega) k1).1
  refine ⟨fun k k1 k2 => ⟨?_, hlo k k1 k2, fun h => ?_⟩, fun x x1 x2 k k1 k2 => ?_⟩
  · obtain ⟨a1, a2, w, wt, a3, a4, a5, a6, a7⟩ := hR g hg k k1 k2
    have ew : wtN ρ k = w := by unfold wtN; rw [a5]; exact nI_clamp (by omega)
    refine ⟨a1, a2, by rw [ew]; exact a3, by rw [ew]; exact a4, by rw [ew]; exact a5, ?_⟩
    rw [ew]
    refine okN_wt a1.2.2.2.2.2.1 a6 (fun i hi => ?_)
    have hc := a2 i hi
    have h1 := hlo k k1 k2
    obtain ⟨b1, b2, w', wt', b3, b4, b5, _⟩ := hR g hg ((R k).2.2.2.2.2 i) (by have := hc.2.1; omega) (by have := hc.1; omega)
    have e1 : wt i = w' := (nI_eq (by have := (a7 i hi).1; omega) (by omega)).mp ((a7 i hi).2.symm.trans b4)
    show wt i = wtN ρ ((R k).2.2.2.2.2 i)
    unfold wtN
    rw [b5, nI_clamp (by omega)]; exact e1
  · obtain ⟨p, i, y1, y2, y3, y4⟩ := (hB k (by omega) k1).2 (by omega)
    exact ⟨p, i, y1, by omega, y3, y4⟩
  · have h1 := hlo x x1 x2
    exact (nd_below (R := R) x (by omega) (fun k k1 k2 => by
      have := hR g hg k (by omega) (by omega)
      exact ⟨this.1, this.2.1⟩) k k1 k2).1
/-- the data as the analysis reads them -/
def dsc (R : Nat → jRw) (ρ : jx_S) (k : Nat) : jDs := (if (R k).1 = 1 then (if ρ.1 117 k = -1 then 29 else 28) else (R k).1, (R k).2.2.1, (R k).2.2.2.2.1, (ρ.1 123 k).toNatClampNeg, if ρ.1 122 k = -1 then 0 else (ρ.1 122 k).toNatClampNeg + 1, (R k).2.2.2.2.2)
/-- what the rows say of a node -/
def AN (E : jEn) (τ ρ : jx_S) (k tk : Nat) (d : jDs) : Prop :=
  k < 1200 ∧ dM d < 1200 ∧ (∀ i, i < dM d → dC d i < k) ∧ (∀ i j, i < j → j < dM d → dC d i < dC d j) ∧
  τ.1 23 (k + 1) = nI (dK d) ∧ ρ.1 112 k = nI (if 28 ≤ dK d then 1 else dK d) ∧ dK d < 30 ∧
  τ.1 27 (k + 1) = nI (if 0 < dM d then dC d 0 + 1 else 0) ∧ (∀ i, i < dM d → τ.1 29 (dC d i + 1) = nI (if i + 1 < dM d then dC d (i + 1) + 1 else 0)) ∧
  (0 < dM d → ρ.1 114 k = nI (dC d 0)) ∧ (dK d < 28 → 1 < dM d → ρ.1 115 k = nI (dC d 1)) ∧ (dK d < 28 → 2 < dM d → ρ.1 116 k = nI (dC d 2)) ∧
  (28 ≤ dK d → ρ.1 119 k = nI (dM d) ∧ τ.1 35 (k + 1) = nI (dM d) ∧ ∀ i, i + 1 < dM d → ρ.1 120 (dC d i) = nI (dC d (i + 1))) ∧
  (dK d = 28 → ρ.1 117 k = nI (dS d) ∧ τ.1 33 (k + 1) = nI (dS d)) ∧ (dK d = 29 → ρ.1 117 k = -1 ∧ ρ.1 123 k = nI (dG d) ∧ τ.1 33 (k + 1) = nI (dG d)) ∧
  (dK d = 5 → ρ.1 117 k = nI (dS d) ∧ τ.1 33 (k + 1) = nI (dS d)) ∧ (dK d = 10 → ρ.1 117 k = nI (dS d) ∧ ρ.1 118 k = nI (dS d + 1) ∧ τ.1 33 (k + 1) = nI (dS d)) ∧
  ρ.1 113 k = nI tk ∧ τ.1 25 (k + 1) = nI tk ∧ tk < eC E ∧ eK E tk = (if 28 ≤ dK d then 1 else dK d) ∧
  ρ.1 122 k = (if dB d = 0 then -1 else nI (dB d - 1)) ∧ dB d ≤ 30 ∧ v_cTre_boundBy (nI (k + 1)) τ = ρ.1 122 k
/-- the types, exactly -/
def okT (F : Nat) (pN bN : Nat → Nat) (ty : Nat → Nat → Nat) (f : Nat) (W : Nat → Nat) (d : jDs) (k : Nat) : Prop :=
  (dK d = 2 ∧ W k = 0 ∧ dM d = 0) ∨ (dK d = 13 ∧ W k = 1 ∧ dM d = 0) ∨ (dK d = 15 ∧ W k < 2 ∧ dM d = 0) ∨ ((dK d = 19 ∨ (23 ≤ dK d ∧ dK d ≤ 27)) ∧ dM d = 2 ∧ W k = 0 ∧ W (dC d 0) = 0 ∧ W (dC d 1) = 0) ∨ (dK d = 14 ∧ dM d = 2 ∧ W k = 1 ∧ W (dC d 0) = 0 ∧ W (dC d 1) = 1) ∨ (dK d = 5 ∧ dM d = 2 ∧ W k < 2 ∧ W (dC d 0) = ty f (dS d) ∧ W (dC d 1) = W k) ∨ (dK d = 7 ∧ dM d = 3 ∧ W k < 2 ∧ W (dC d 0) = 0 ∧ W (dC d 1) = W k ∧ W (dC d 2) = W k) ∨ (dK d = 10 ∧ dM d = 3 ∧ W k < 2 ∧ W (dC d 0) = 1 ∧ W (dC d 1) = W k ∧ W (dC d 2) = W k) ∨
  (dK d = 28 ∧ dM d ≤ tyA (ty f (dS d)) ∧ tyL (ty f (dS d)) (dM d) = W k ∧ ∀ i, i < dM d → W (dC d i) = tyP (ty f (dS d)) i) ∨
  (dK d = 29 ∧ dG d < F ∧ dM d ≤ pN (dG d) ∧ lfv (pN (dG d)) (dM d) (bN (dG d)) (ty (dG d) (dM d)) (ty (dG d) (dM d + 1)) = nI (W k) ∧ ∀ i, i < dM d → W (dC d i) = ty (dG d) i)
