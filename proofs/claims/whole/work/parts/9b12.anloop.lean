/-! ANALYSIS, 12: nodes one after another, in the reference. -/
def RV (F : Nat) (pN : Nat → Nat) (ty V : Nat → Nat → Nat) (ρ : jx_S) : Prop := ∀ g, g < F → ∀ n, n < cnt (ty g) (pN g) → ρ.1 146 (1000 * g + n) = nI (V g n)
def RB (pN lN' : Nat → Nat) (ty : Nat → Nat → Nat) (f : Nat) (V : Nat → Nat → Nat) (D : Nat → jDs) (a : Nat) (q : (Nat → Nat) × (Nat → Nat)) (X : Nat) (ρ : jx_S) (i : Nat) (s : Int32 × Int32 × jx_S) : Prop := ∃ ρ', s = (nI X, nI (a + i), ρ') ∧ KQ [148, 149] 106 [] ρ ρ' ∧ (∀ j, a ≤ j → j < a + i → ρ'.1 148 j = nI ((ev pN ty f V D a q i).1 j)) ∧ ∀ s, s < lN' f → ρ'.1 149 s = nI ((ev pN ty f V D a q i).2 s)
theorem r_bstep {E : jEn} {F : Nat} {nS pN lN' : Nat → Nat} {ty : Nat → Nat → Nat} {W : Nat → Nat} {D : Nat → jDs} {tk : Nat → Nat} {τ ρ : jx_S} {V : Nat → Nat → Nat} {f a i X : Nat} {q : (Nat → Nat) × (Nat → Nat)} (hP : AP E F nS pN lN' ty W D tk τ ρ) (hf : f < F) (ha : nS f ≤ a) (hn : a + i < nS (f + 1)) (hR : ∀ k, a ≤ k → k < a + (i + 1) → ∀ i, i < dM (D k) → a ≤ dC (D k) i) (hV : RV F pN ty V ρ) (h56 : ρ.1 106 56 = nI f) (hL : LeV F pN ty V V) (hl : ∀ s, s < lN' f → q.2 s < tyQ (ty f s)) (hX : a + i ≤ X) (hX2 : X < 1200) {s : Int32 × Int32 × jx_S} (h : RB pN lN' ty f V D a q X ρ i s) : ∃ s1, p_r_work_2_s s.1 s.2.1 s.2.2 = some (.inl s1) ∧ RB pN lN' ty f V D a q X ρ (i + 1) s1 := by
  obtain ⟨ρ', rfl, hk, h67, h69⟩ := h
  have hP' : AP E F nS pN lN' ty W D tk τ ρ' := AP_r hP (KQ_mono hk (by decide) (by decide))
  obtain ⟨hb1, hb2⟩ := ev_bnd (q := q) (n := i) hP hf ha (by omega) (fun k k1 k2 => hR k k1 (by omega)) hL hl
  have hCS : RS F pN lN' ty V f ρ' (ev pN ty f V D a q i).2 := ⟨by
    intro g hg n hn
    rw [hk.1 146 (by decide) (by decide)]; exact hV g hg n hn, h69, (hk.2.1 56 (by decide)).trans h56, fun g hg => by
    obtain ⟨_, _, _, c, d⟩ := hP'.2.2.2.2 g hg
    exact ⟨c.1, d.1, d.2.1, d.2.2.1, fun i hi => ⟨d.2.2.2.2 i hi, c.2.2.2.2.2.1 i hi⟩, c.2.2.2.2.2.2, d.2.2.2.1⟩⟩
  obtain ⟨hA, hok, _, _⟩ := (hP'.2.2.2.2 f hf).2.1 (a + i) (by omega) hn
  have e := r_pointOf (W := W) (bN := pN) (pt := (ev pN ty f V D a q i).1) hP.1 hf hA hok hCS hL (fun j hj => by
    have := hok.1 j hj
    have := hR (a + i) (by omega) (by omega) j hj
    exact ⟨h67 _ this (by omega), hb1 _ this (by omega)⟩) hb2
  have hbd0 := hA.2.2.2.2.2.2.2.2.2.2.2.2.2.2.2.2.2.2.2.2.2
  have hbd := hbd0.2
  have hev : ev pN ty f V D a q (i + 1) = evS pN ty f V D (a + i) (ev pN ty f V D a q i) := rfl
  unfold evS at hev
  have hdB : dB (D (a + i)) ≤ 30 := hbd.1
  have hbB : dB (D (a + i)) = 0 ∨ dB (D (a + i)) - 1 < lN' f := by
    rcases hok.2.1 with z | z
    · exact Or.inl z
    · exact Or.inr z.1
  have hl30 := (hP.2.2.2.2 f hf).2.2.2.2.2.2.1
  generalize hv : ptN pN ty f V (D (a + i)) (ev pN ty f V D a q i).1 (ev pN ty f V D a q i).2 = v at *
  generalize hE : ev pN ty f V D a q i = e0 at *
  have h122 := hbd0.1
  have hni : ¬ (nI (a + i) < 0 ∨ 3000 ≤ a + i) := fun z => by
    rcases z with z | z
    · exact nI_pos (by omega) z
    · omega
  show ∃ s1, p_r_work_2_s (nI X) (nI (a + i)) ρ' = some (.inl s1) ∧ _
  unfold p_r_work_2_s p_r_work_44
  rw [if_neg (nI_nlt (by omega) (by omega)), e, Option.bind_some]
  simp only [nI_clamp (show a + i < 2 ^ 31 by omega), h122, if_neg hni]
  unfold RB
  rw [hev]
  by_cases z : dB (D (a + i)) = 0
  · rw [if_pos z, if_pos (by decide)]
    refine ⟨_, rfl, _, by rw [← nI_succ]; rfl, KQ_trans hk (KQ_i (by decide) (by decide)), fun j j1 j2 => ?_, fun s hs => ?_⟩
    · rw [s_i_eq]
      show _ = nI (if j = a + i then v else e0.1 j)
      by_cases y : j = a + i
      · rw [if_pos y, u_eq (by omega)]
      · rw [if_neg y, u_ne (by omega)]; exact h67 j j1 (by omega)
    · rw [s_i_ne (by decide)]
      show _ = nI (if dB (D (a + i)) = s + 1 then v else e0.2 s)
      rw [if_neg (by omega)]; exact h69 s hs
  · have hni2 : ¬ (nI (dB (D (a + i)) - 1) < 0 ∨ 32 ≤ (nI (dB (D (a + i)) - 1)).toNatClampNeg) := nI_in (by omega) (by omega)
    rw [if_neg z, if_neg (nI_pos (by omega)), if_neg hni2, nI_clamp (show dB (D (a + i)) - 1 < 2 ^ 31 by omega)]
    refine ⟨_, rfl, _, by rw [← nI_succ]; rfl, KQ_trans hk (KQ_trans (KQ_i (by decide) (by decide)) (KQ_i (by decide) (by decide))), fun j j1 j2 => ?_, fun s hs => ?_⟩
    · rw [s_i_ne (by decide), s_i_eq]
      show _ = nI (if j = a + i then v else e0.1 j)
      by_cases y : j = a + i
      · rw [if_pos y, u_eq (by omega)]
      · rw [if_neg y, u_ne (by omega)]; exact h67 j j1 (by omega)
    · rw [s_i_eq, s_i_ne (by decide)]
      show _ = nI (if dB (D (a + i)) = s + 1 then v else e0.2 s)
      by_cases y : dB (D (a + i)) = s + 1
      · rw [if_pos y, u_eq (by omega), s_i_eq, u_eq rfl]
      · rw [if_neg y, u_ne (by omega)]; exact h69 s hs
theorem r_between {E : jEn} {F : Nat} {nS pN lN' : Nat → Nat} {ty : Nat → Nat → Nat} {W : Nat → Nat} {D : Nat → jDs} {tk : Nat → Nat} {τ ρ : jx_S} {V : Nat → Nat → Nat} {f a n : Nat} {q : (Nat → Nat) × (Nat → Nat)} (hP : AP E F nS pN lN' ty W D tk τ ρ) (hf : f < F) (ha : nS f ≤ a) (hn0 : 0 < n) (hn : a + n ≤ nS (f + 1)) (hR : ∀ k, a ≤ k → k < a + n → ∀ i, i < dM (D k) → a ≤ dC (D k) i) (hV : RV F pN ty V ρ) (h56 : ρ.1 106 56 = nI f) (hL : LeV F pN ty V V) (h69 : ∀ s, s < lN' f → ρ.1 149 s = nI (q.2 s)) (hl : ∀ s, s < lN' f → q.2 s < tyQ (ty f s)) : ∃ ρ', p_r_work (nI a) (nI (a + n - 1)) ρ = some (nI ((ev pN ty f V D a q n).1 (a + n - 1)), ρ') ∧ KQ [148, 149] 106 [] ρ ρ' := by
  have h1200 := (hP.2.2.2.2 f hf).1.2.1
  unfold p_r_work p_r_work_2
  obtain ⟨s1, ⟨ρ', rfl, hk, h67, _⟩, e⟩ := loop_invx (f := fun s : Int32 × Int32 × jx_S => p_r_work_2_s s.1 s.2.1 s.2.2) (RB pN lN' ty f V D a q (a + n - 1) ρ) n (fun i s hi h => r_bstep hP hf ha (by omega) (fun k k1 k2 => hR k k1 (by omega)) hV h56 hL hl (by omega) (by omega) h) (s := (nI (a + n - 1), nI a, ρ)) ⟨ρ, rfl, KQ_refl, fun j j1 j2 => by omega, h69⟩ (X := fun s => some (s.2.2.1 148 s.1.toNatClampNeg, s.2.2)) (fun s hs => by
    obtain ⟨ρ', rfl, hk, h67, _⟩ := hs
    show p_r_work_2_s (nI (a + n - 1)) (nI (a + n)) ρ' = _
    unfold p_r_work_2_s
    rw [if_pos (nI_lt (by omega) (by omega)), if_neg (nI_in (by omega) (by omega))]) (n := 100000000) (by omega)
  refine ⟨ρ', e.trans ?_, hk⟩
  show some (ρ'.1 148 (nI (a + n - 1)).toNatClampNeg, ρ') = _
  rw [nI_clamp (by omega), h67 (a + n - 1) (by omega) (by omega)]
