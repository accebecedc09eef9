/-! RUNS, 10: a name with atoms that still lacks some: which function, what it has got. -/
def PRe (E : jEn) (G : jGh) (F : Nat) (nS pN bN lN' : Nat → Nat) (ty : Nat → Nat → Nat) (W : Nat → Nat) (D : Nat → jDs) (tk LO : Nat → Nat) (sl sp : Nat → Nat → Nat) (H : jHp) (φ d c : Nat) : Prop := φ < jFn H ∧ nS (jFf H φ) ≤ c ∧ c < nS (jFf H φ + 1) ∧ (∀ s, gV G c s → jLb H φ s) ∧ ∀ c', LO c ≤ c' → c' ≤ c → jOw H c' φ = 2 * d + 1
/-- what function a value is, and how much it has got -/
def fnV (H : jHp) (v : aV) (g t : Nat) : Prop := (v = (4, nI g) ∧ t = 0) ∨ ∃ p, p < jGn H ∧ v = (5, nI p) ∧ jGg H p = g ∧ jGt H p = t
theorem VT_fun {E : jEn} {G : jGh} {F : Nat} {nS pN bN lN' : Nat → Nat} {ty : Nat → Nat → Nat} {W : Nat → Nat} {D : Nat → jDs} {tk LO : Nat → Nat} {sl sp : Nat → Nat → Nat} {H : jHp} {gd : Nat → Prop} {T : Nat} {v : aV} (h : HI E G F nS pN bN lN' ty W D tk LO sl sp H gd) (hT : 2 ≤ T) (hv : VT F pN bN ty W H T v) : ∃ g t, g < F ∧ t ≤ pN g ∧ fnV H v g t ∧ lfv (pN g) t (bN g) (ty g t) (ty g (t + 1)) = nI T := by
  rcases hv with ⟨_, h2⟩ | ⟨_, h2⟩ | ⟨_, h2, _⟩ | ⟨_, i, h2, _, h4⟩ | ⟨h1, _, g, h3, h4, h5⟩ | ⟨h1, _, p, h3, h4, h5⟩
  · omega
  · omega
  · omega
  · have := (h.2.1.2 i h2).2.1
    omega
  · exact ⟨g, 0, h3, Nat.zero_le _, Or.inl ⟨Prod.ext h1 h4, rfl⟩, h5⟩
  · have q := h.2.2.2.2.2.2 p h3
    exact ⟨jGg H p, jGt H p, q.1.1, q.1.2.2.2.1, Or.inr ⟨p, h3, Prod.ext h1 h4, rfl, rfl⟩, h5⟩
theorem nm_ty {T : Nat} (hT : T < 14) {m : Nat} (hm : m ≤ tyA T) (h0 : 0 < m) (h2 : 2 ≤ tyL T m) : tyA T = 2 ∧ m = 1 ∧ tyL T m = 2 + (T - 6) % 4 ∧ 6 ≤ T := by
  unfold tyL at h2 ⊢
  unfold tyA at *
  by_cases a : T < 2
  · rw [if_pos a] at hm; omega
  · rw [if_neg a] at *
    by_cases b : T < 6
    · rw [if_pos b] at *
      rw [if_neg (by omega), if_pos (by omega)] at h2
      omega
    · rw [if_neg b] at *
      rw [if_neg (by omega)] at h2 ⊢
      by_cases e : m = 2
      · rw [if_pos e] at h2; omega
      · rw [if_neg e]; exact ⟨rfl, by omega, rfl, by omega⟩
/-- what a name with atoms is: the function, what it has, what its atoms are for -/
theorem fun_info {E : jEn} {G : jGh} {F : Nat} {nS pN bN lN' : Nat → Nat} {ty : Nat → Nat → Nat} {W : Nat → Nat} {D : Nat → jDs} {tk LO : Nat → Nat} {sl sp : Nat → Nat → Nat} {H : jHp} {gd : Nat → Prop} {f φ c : Nat} {τ ρ : jx_S} (hR : RP E G F nS pN bN lN' ty W D tk LO sl sp τ ρ) (hf : f < F) (hff : jFf H φ = f) (hN : RNd E G F nS pN bN lN' ty W D tk LO sl sp f τ ρ c) (h : HI E G F nS pN bN lN' ty W D tk LO sl sp H gd) (hφ : φ < jFn H) (hvis : ∀ s, gV G c s → jLb H φ s) (hW : 2 ≤ W c) : ∃ g t, g < F ∧ t + dM (D c) ≤ pN g ∧ fnV H (bfV D H φ c) g t ∧ lfv (pN g) (t + dM (D c)) (bN g) (ty g (t + dM (D c))) (ty g (t + dM (D c) + 1)) = nI (W c) ∧ (∀ i, i < dM (D c) → W (dC (D c) i) = ty g (t + i)) ∧ dM (D c) ≤ 8 := by
  obtain ⟨hA, hT, hW14, _, _, _, _, _, h28, _⟩ := hN
  have hkk := ot_kind hT hW
  unfold okT at hT
  rcases hkk with k | k
  · obtain ⟨s1, s2⟩ := h28 k
    have hb := hvis _ s2
    have hvt := h.2.2.1.1 φ hφ (dS (D c)) (by rw [hff]; exact s1) hb
    rw [hff] at hvt
    have hT14 := (hR.2.2 f hf).2.1.2.2.2.1 (dS (D c)) s1
    have hx : dM (D c) ≤ tyA (ty f (dS (D c))) ∧ tyL (ty f (dS (D c))) (dM (D c)) = W c ∧ ∀ i, i < dM (D c) → W (dC (D c) i) = tyP (ty f (dS (D c))) i := by
      rcases hT with h | h | h | h | h | h | h | h | h | h
      · omega
      · omega
      · omega
      · omega
      · omega
      · omega
      · omega
      · omega
      · exact h.2
      · omega
    obtain ⟨x1, x2, x3⟩ := hx
    have hbf : bfV D H φ c = jLv H φ (dS (D c)) := if_neg (by omega)
    have hT2 : 2 ≤ ty f (dS (D c)) := by
      unfold tyA at x1
      by_cases z : ty f (dS (D c)) < 2
      · rw [if_pos z] at x1
        have : dM (D c) = 0 := by omega
        rw [this] at x2
        unfold tyL at x2
        rw [if_pos rfl] at x2
        omega
      · omega
    obtain ⟨g, t, g1, g2, g3, g4⟩ := VT_fun h hT2 hvt
    have hbg := (hR.2.2 g g1).1.2.2.2.1
    obtain ⟨q1, q2, q3, q4⟩ := lfv_dec hbg hT14 g4 hT2
    rw [hbf]
    by_cases z : dM (D c) = 0
    · refine ⟨g, t, g1, by omega, g3, ?_, fun i hi => by omega, by omega⟩
      rw [z, Nat.add_zero, g4]
      rw [z] at x2
      unfold tyL at x2
      rw [if_pos rfl] at x2
      rw [x2]
    · obtain ⟨y1, y2, y3, y4⟩ := nm_ty hT14 x1 (by omega) (by omega)
      have q3' := q3 y1
      refine ⟨g, t, g1, by omega, g3, ?_, fun i hi => ?_, by omega⟩
      · rw [y2, ← x2, y3]
        unfold lfv
        rw [if_neg (by omega), if_pos (by omega)]
        unfold tyP at q3'
        rw [if_neg (by omega), if_neg (by omega), if_neg (by omega), if_pos rfl] at q3'
        rw [if_pos (by omega)]
        congr 1
        omega
      · have : i = 0 := by omega
        subst this
        rw [x3 0 hi, Nat.add_zero]; exact q2.symm
  · have hbf : bfV D H φ c = (4, nI (dG (D c))) := if_pos k
    rw [hbf]
    have hx : dG (D c) < F ∧ dM (D c) ≤ pN (dG (D c)) ∧ lfv (pN (dG (D c))) (dM (D c)) (bN (dG (D c))) (ty (dG (D c)) (dM (D c))) (ty (dG (D c)) (dM (D c) + 1)) = nI (W c) ∧ ∀ i, i < dM (D c) → W (dC (D c) i) = ty (dG (D c)) i := by
      rcases hT with h | h | h | h | h | h | h | h | h | h
      · omega
      · omega
      · omega
      · omega
      · omega
      · omega
      · omega
      · omega
      · omega
      · exact h.2
    obtain ⟨x1, x2, x3, x4⟩ := hx
    have h8 := (hR.2.2 _ x1).2.1.1
    exact ⟨dG (D c), 0, x1, by omega, Or.inl ⟨rfl, rfl⟩, by rw [Nat.zero_add]; exact x3, fun i hi => by rw [Nat.zero_add]; exact x4 i hi, by omega⟩
