/-! ANALYSIS, 21: what is strict: lets. -/
def glt (ty : Nat → Nat → Nat) (f s0 s : Nat) : Nat := if s = s0 then 0 else tyQ (ty f s) - 1
theorem glt_lt {ty : Nat → Nat → Nat} {f s0 s : Nat} : glt ty f s0 s < tyQ (ty f s) := by
  unfold glt
  have := tyQ_le (ty f s)
  split <;> omega
def slet (pN : Nat → Nat) (ty V : Nat → Nat → Nat) (D : Nat → jDs) (f k : Nat) : Nat := 1 - (ev pN ty f V D (dC (D k) 0 + 1) (fun _ => 0, glt ty f (dS (D k))) (dC (D k) 1 - dC (D k) 0)).1 (dC (D k) 1)
theorem let_rng {E : jEn} {F : Nat} {nS pN lN' : Nat → Nat} {ty : Nat → Nat → Nat} {W : Nat → Nat} {D : Nat → jDs} {tk : Nat → Nat} {τ ρ : jx_S} (hP : AP E F nS pN lN' ty W D tk τ ρ) {V : Nat → Nat → Nat} {f k : Nat} (hf : f < F) (k1 : nS f ≤ k) (k2 : k < nS (f + 1)) (hK : dK (D k) = 5) (hL : LeV F pN ty V V) : dM (D k) = 2 ∧ nS f ≤ dC (D k) 0 + 1 ∧ 0 < dC (D k) 1 - dC (D k) 0 ∧ dC (D k) 0 + 1 + (dC (D k) 1 - dC (D k) 0) = dC (D k) 1 + 1 ∧ dC (D k) 1 < k ∧ dS (D k) < lN' f ∧ ρ.1 121 (dC (D k) 1) = nI (dC (D k) 0 + 1) ∧ (∀ j, dC (D k) 0 + 1 ≤ j → j < dC (D k) 0 + 1 + (dC (D k) 1 - dC (D k) 0) → ∀ i, i < dM (D j) → dC (D k) 0 + 1 ≤ dC (D j) i) ∧ (ev pN ty f V D (dC (D k) 0 + 1) (fun _ => 0, glt ty f (dS (D k))) (dC (D k) 1 - dC (D k) 0)).1 (dC (D k) 1) < 2 := by
  obtain ⟨hA, hok, hlo, hlet⟩ := (hP.2.2.2.2 f hf).2.1 k k1 k2
  obtain ⟨l1, l2, l3, l4, l5⟩ := hlet hK
  have c0 := hlo 0 (by omega)
  have c1 := hok.1 1 (by omega)
  have hR : ∀ j, dC (D k) 0 + 1 ≤ j → j < dC (D k) 0 + 1 + (dC (D k) 1 - dC (D k) 0) → ∀ i, i < dM (D j) → dC (D k) 0 + 1 ≤ dC (D j) i := fun j j1 j2 i hi => l5 j (by omega) (by omega) i hi
  have hW : W (dC (D k) 1) < 2 := by
    have h3 := hok.2.2
    rcases h3 with h3 | h3 | h3 | h3 | h3 | h3
    · omega
    · rw [h3.2.2.2]; exact h3.2.2.1
    · omega
    · omega
    · omega
    · omega
  refine ⟨l1, by omega, by omega, by omega, c1, l2, l3, hR, ?_⟩
  have hb := (ev_bnd (V := V) (q := (fun _ => 0, glt ty f (dS (D k)))) hP hf (show nS f ≤ dC (D k) 0 + 1 by omega) (show dC (D k) 0 + 1 + (dC (D k) 1 - dC (D k) 0) ≤ nS (f + 1) by omega) hR hL (fun s hs => glt_lt)).1 (dC (D k) 1) (by omega) (by omega)
  rw [tyQ_b hW] at hb
  exact hb
theorem c_jlet {E : jEn} {F : Nat} {nS pN lN' : Nat → Nat} {ty : Nat → Nat → Nat} {W : Nat → Nat} {D : Nat → jDs} {tk : Nat → Nat} {τ ρ : jx_S} (hP : AP E F nS pN lN' ty W D tk τ ρ) {V : Nat → Nat → Nat} {f : Nat} (hf : f < F) (hV : CV F pN ty V τ) (hL : LeV F pN ty V V) : ∃ τ', p_cAna_judgeLets (nI f) τ = some τ' ∧ KQ [67, 69, 39] 7 [] τ τ' ∧ (∀ k, nS f ≤ k → k < nS (f + 1) → dK (D k) = 5 → τ'.1 39 (k + 1) = nI (slet pN ty V D f k)) ∧ ∀ j, (j ≤ nS f ∨ nS (f + 1) < j) → τ'.1 39 j = τ.1 39 j := by
  have hF := hP.1
  obtain ⟨g1, g2, g3, g4⟩ := AP_rng hP hf
  unfold p_cAna_judgeLets p_cAna_judgeLets_12
  rw [jI_at_in (by omega) (by omega), (hP.2.2.2.2 f hf).2.2.1.2.2.1]
  obtain ⟨s1, ⟨τ', rfl, hk, h1, h2⟩, e⟩ := loop_invx (f := fun s : Int32 × Int32 × jx_S => p_cAna_judgeLets_12_s s.1 s.2.1 s.2.2) (fun i s => ∃ τ', s = (nI f, nI (nS f + 1 + i), τ') ∧ KQ [67, 69, 39] 7 [] τ τ' ∧ (∀ k, nS f ≤ k → k < nS f + i → dK (D k) = 5 → τ'.1 39 (k + 1) = nI (slet pN ty V D f k)) ∧ ∀ j, (j ≤ nS f ∨ nS (f + 1) < j) → τ'.1 39 j = τ.1 39 j) (nS (f + 1) - nS f) (fun i s hi h => by
    obtain ⟨τ', rfl, hk, h1, h2⟩ := h
    have hP' : AP E F nS pN lN' ty W D tk τ' ρ := AP_c hP (KQ_mono hk (by decide) (by decide))
    obtain ⟨_, hn, c, _, d⟩ := hP'.2.2.2.2 f hf
    obtain ⟨hA, hok, _, _⟩ := hn (nS f + i) (by omega) (by omega)
    have hV' : CV F pN ty V τ' := CV_keep hV (hk.1 63 (by decide) (by decide)) (hk.2.1 6 (by decide))
    have e23 : τ'.1 23 (nS f + i + 1) = nI (dK (D (nS f + i))) := hA.2.2.2.2.1
    have hk30 := hA.2.2.2.2.2.2.1
    show ∃ s1, p_cAna_judgeLets_12_s (nI f) (nI (nS f + 1 + i)) τ' = _ ∧ _
    rw [show nS f + 1 + i = nS f + i + 1 by omega]
    unfold p_cAna_judgeLets_12_s p_cAna_judgeLets_114
    rw [jI_at_in (by omega) (by omega), c.2.2.2.1, if_neg (nI_nlt (by omega) (by omega)), jI_at_in (by omega) (by omega), e23, ← nI_succ]
    by_cases z : dK (D (nS f + i)) = 5
    · rw [if_neg (show ¬ ¬ nI (dK (D (nS f + i))) = (5 : Int32) by rw [z]; exact fun q => q rfl)]
      obtain ⟨l1, l2, l3, l4, l5, l6, l7, l8, l9⟩ := let_rng hP' hf (show nS f ≤ nS f + i by omega) (by omega) z hL
      obtain ⟨τ1, e1, k1, h69⟩ := c_great hP' hf
      have hP1 : AP E F nS pN lN' ty W D tk τ1 ρ := AP_c hP' (KQ_mono k1 (by decide) (by decide))
      have hA1 := ((hP1.2.2.2.2 f hf).2.1 (nS f + i) (by omega) (by omega)).1
      have e27 : τ'.1 27 (nS f + i + 1) = nI (dC (D (nS f + i)) 0 + 1) := by rw [hA.2.2.2.2.2.2.2.1, if_pos (by omega)]
      have e29 : τ1.1 29 (dC (D (nS f + i)) 0 + 1) = nI (dC (D (nS f + i)) 1 + 1) := by
        rw [hA1.2.2.2.2.2.2.2.2.1 0 (by omega), if_pos (by omega)]
      have e33 : τ1.1 33 (nS f + i + 1) = nI (dS (D (nS f + i))) := (hA1.2.2.2.2.2.2.2.2.2.2.2.2.2.2.2.1 z).2
      have hl30 := d.2.2.1
      have k1' : KQ [67, 69, 39] 7 [] τ' (jI_put 30 τ1 69 (nI (dS (D (nS f + i)))) 0) := KQ_trans (KQ_mono k1 (by decide) (by decide)) (KQ_p (by decide) (by decide))
      have hP2 : AP E F nS pN lN' ty W D tk (jI_put 30 τ1 69 (nI (dS (D (nS f + i)))) 0) ρ := AP_c hP' (KQ_mono k1' (by decide) (by decide))
      obtain ⟨τ3, e3, k3⟩ := c_between (V := V) (q := (fun _ => 0, glt ty f (dS (D (nS f + i))))) hP2 hf l2 l3 (by omega) l8 (CV_keep hV' (k1'.1 63 (by decide) (by decide)) (k1'.2.1 6 (by decide))) hL (fun s hs => by
        rw [s_p_eq, jI_up_in (by omega) (by omega)]
        show _ = nI (glt ty f (dS (D (nS f + i))) s)
        unfold glt
        by_cases y : s = dS (D (nS f + i))
        · rw [u_eq y, if_pos y]; rfl
        · rw [u_ne y, if_neg y]; exact h69 s hs) (fun s hs => glt_lt)
      rw [l4, show dC (D (nS f + i)) 1 + 1 - 1 = dC (D (nS f + i)) 1 by omega] at e3
      rw [e1, Option.bind_some, jI_at_in (by omega) (by omega), e27, jI_at_in (by omega) (by omega), e29, jI_at_in (by omega) (by omega), e33, show nI (dC (D (nS f + i)) 0 + 1) + (1 : Int32) = nI (dC (D (nS f + i)) 0 + 1 + 1) from (nI_succ _).symm, e3, Option.bind_some]
      refine ⟨_, rfl, _, by rw [show nS f + i + 1 + 1 = nS f + 1 + (i + 1) by omega], KQ_trans hk (KQ_trans k1' (KQ_trans (KQ_mono k3 (by decide) (by decide)) (KQ_p (by decide) (by decide)))), fun k q1 q2 q3 => ?_, fun j hj => ?_⟩
      · rw [s_p_eq, jI_up_in (by omega) (by omega)]
        by_cases y : k = nS f + i
        · subst y
          rw [u_eq rfl]
          exact nI_sub (a := 1) (by omega)
        · rw [u_ne (by omega)]
          show τ3.1 39 (k + 1) = _
          rw [k3.1 39 (by decide) (by decide), s_p_ne (by decide), k1.1 39 (by decide) (by decide)]
          exact h1 k q1 (by omega) q3
      · rw [s_p_eq, jI_up_in (by omega) (by omega), u_ne (by omega)]
        show τ3.1 39 j = _
        rw [k3.1 39 (by decide) (by decide), s_p_ne (by decide), k1.1 39 (by decide) (by decide)]
        exact h2 j hj
    · rw [if_pos (show ¬ nI (dK (D (nS f + i))) = (5 : Int32) from fun q => z ((nI_eq (b := 5) (by omega) (by omega)).1 q))]
      refine ⟨_, rfl, τ', by rw [show nS f + i + 1 + 1 = nS f + 1 + (i + 1) by omega], hk, fun k q1 q2 q3 => ?_, h2⟩
      by_cases y : k = nS f + i
      · subst y; exact absurd q3 z
      · exact h1 k q1 (by omega) q3) (s := (nI f, nI (nS f + 1), τ)) ⟨τ, rfl, KQ_refl, fun k q1 q2 => by omega, fun _ _ => rfl⟩ (X := fun s => some s.2.2) (fun s hs => by
    obtain ⟨τ', rfl, hk, _⟩ := hs
    have hP' : AP E F nS pN lN' ty W D tk τ' ρ := AP_c hP (KQ_mono hk (by decide) (by decide))
    obtain ⟨_, _, c, _, _⟩ := hP'.2.2.2.2 f hf
    show p_cAna_judgeLets_12_s (nI f) (nI (nS f + 1 + (nS (f + 1) - nS f))) τ' = _
    unfold p_cAna_judgeLets_12_s
    rw [jI_at_in (by omega) (by omega), c.2.2.2.1, if_pos (nI_lt (by omega) (by omega))]) (n := 100000000) (by omega)
  exact ⟨τ', e, hk, fun k q1 q2 => h1 k q1 (by omega), h2⟩
theorem r_jlet {E : jEn} {F : Nat} {nS pN lN' : Nat → Nat} {ty : Nat → Nat → Nat} {W : Nat → Nat} {D : Nat → jDs} {tk : Nat → Nat} {τ ρ : jx_S} (hP : AP E F nS pN lN' ty W D tk τ ρ) {V : Nat → Nat → Nat} {f : Nat} (hf : f < F) (hV : RV F pN ty V ρ) (hL : LeV F pN ty V V) : ∃ ρ', p_r_analyse_218 (nI f) (nI (nS (f + 1))) (nI (nS f)) ρ = some (.inl (nI (f + 1), ρ')) ∧ KQ [148, 149, 125] 106 [56] ρ ρ' ∧ (∀ k, nS f ≤ k → k < nS (f + 1) → dK (D k) = 5 → ρ'.1 125 k = nI (slet pN ty V D f k)) ∧ ∀ j, (j < nS f ∨ nS (f + 1) ≤ j) → ρ'.1 125 j = ρ.1 125 j := by
  have hF := hP.1
  obtain ⟨g1, g2, g3, g4⟩ := AP_rng hP hf
  unfold p_r_analyse_218
  obtain ⟨s1, ⟨ρ', rfl, hk, h1, h2⟩, e⟩ := loop_invx (f := fun s : Int32 × Int32 × Int32 × jx_S => p_r_analyse_218_s s.1 s.2.1 s.2.2.1 s.2.2.2) (fun i s => ∃ ρ', s = (nI f, nI (nS (f + 1)), nI (nS f + i), ρ') ∧ KQ [148, 149, 125] 106 [56] ρ ρ' ∧ (∀ k, nS f ≤ k → k < nS f + i → dK (D k) = 5 → ρ'.1 125 k = nI (slet pN ty V D f k)) ∧ ∀ j, (j < nS f ∨ nS (f + 1) ≤ j) → ρ'.1 125 j = ρ.1 125 j) (nS (f + 1) - nS f) (fun i s hi h => by
    obtain ⟨ρ', rfl, hk, h1, h2⟩ := h
    have hP' : AP E F nS pN lN' ty W D tk τ ρ' := AP_r hP (KQ_mono hk (by decide) (by decide))
    obtain ⟨_, hn, _, c, d⟩ := hP'.2.2.2.2 f hf
    obtain ⟨hA, hok, _, _⟩ := hn (nS f + i) (by omega) (by omega)
    have e23 : ρ'.1 112 (nS f + i) = nI (if 28 ≤ dK (D (nS f + i)) then 1 else dK (D (nS f + i))) := hA.2.2.2.2.2.1
    have hk30 := hA.2.2.2.2.2.2.1
    have hni : ¬ (nI (nS f + i) < 0 ∨ 3000 ≤ nS f + i) := fun z => by
      rcases z with z | z
      · exact nI_pos (by omega) z
      · omega
    show ∃ s1, p_r_analyse_218_s (nI f) (nI (nS (f + 1))) (nI (nS f + i)) ρ' = _ ∧ _
    unfold p_r_analyse_218_s p_r_analyse_290 p_r_analyse_291
    rw [if_neg (nI_ge (by omega) (by omega)), nI_clamp (show nS f + i < 2 ^ 31 by omega), if_neg hni, e23, ← nI_succ]
    by_cases z : dK (D (nS f + i)) = 5
    · rw [if_neg (show ¬ ¬ nI (if 28 ≤ dK (D (nS f + i)) then 1 else dK (D (nS f + i))) = (5 : Int32) by rw [z]; exact fun q => q rfl)]
      obtain ⟨l1, l2, l3, l4, l5, l6, l7, l8, l9⟩ := let_rng hP' hf (show nS f ≤ nS f + i by omega) (by omega) z hL
      obtain ⟨ρ1, e1, k1, h56, h69⟩ := r_great hP' hf
      have hP1 : AP E F nS pN lN' ty W D tk τ ρ1 := AP_r hP' (KQ_mono k1 (by decide) (by decide))
      have hA1 := ((hP1.2.2.2.2 f hf).2.1 (nS f + i) (by omega) (by omega)).1
      have e117 : ρ1.1 117 (nS f + i) = nI (dS (D (nS f + i))) := (hA1.2.2.2.2.2.2.2.2.2.2.2.2.2.2.2.1 z).1
      have e115 : ρ1.1 115 (nS f + i) = nI (dC (D (nS f + i)) 1) := hA1.2.2.2.2.2.2.2.2.2.2.1 (by omega) (by omega)
      have e121 : ρ1.1 121 (dC (D (nS f + i)) 1) = nI (dC (D (nS f + i)) 0 + 1) := by rw [k1.1 121 (by decide) (by decide)]; exact l7
      have hl30 := d.2.2.1
      have k1' : KQ [148, 149, 125] 106 [56] ρ' (jx_i ρ1 149 (dS (D (nS f + i))) 0) := KQ_trans (KQ_mono k1 (by decide) (by decide)) (KQ_i (by decide) (by decide))
      have hP2 : AP E F nS pN lN' ty W D tk τ (jx_i ρ1 149 (dS (D (nS f + i))) 0) := AP_r hP' (KQ_mono k1' (by decide) (by decide))
      obtain ⟨ρ3, e3, k3⟩ := r_between (V := V) (q := (fun _ => 0, glt ty f (dS (D (nS f + i))))) hP2 hf l2 l3 (by omega) l8 (fun g hg m hm => by
        rw [k1'.1 146 (by decide) (by decide), hk.1 146 (by decide) (by decide)]; exact hV g hg m hm) (by rw [s_i_ne (by decide)]; exact h56) hL (fun s hs => by
        rw [s_i_eq]
        show _ = nI (glt ty f (dS (D (nS f + i))) s)
        unfold glt
        by_cases y : s = dS (D (nS f + i))
        · rw [u_eq y, if_pos y]; rfl
        · rw [u_ne y, if_neg y]; exact h69 s hs) (fun s hs => glt_lt)
      rw [l4, show dC (D (nS f + i)) 1 + 1 - 1 = dC (D (nS f + i)) 1 by omega] at e3
      rw [e1, Option.bind_some, e117, if_neg hni, if_neg (nI_in (show dS (D (nS f + i)) < 32 by omega) (by omega)), if_neg hni, e115, if_neg (nI_in (show dC (D (nS f + i)) 1 < 3000 by omega) (by omega)), if_neg hni, nI_clamp (show dS (D (nS f + i)) < 2 ^ 31 by omega), nI_clamp (show dC (D (nS f + i)) 1 < 2 ^ 31 by omega), e121, e3, Option.bind_some]
      have hv : slet pN ty V D f (nS f + i) = 1 - (ev pN ty f V D (dC (D (nS f + i)) 0 + 1) (fun _ => 0, glt ty f (dS (D (nS f + i)))) (dC (D (nS f + i)) 1 - dC (D (nS f + i)) 0)).1 (dC (D (nS f + i)) 1) := rfl
      generalize (ev pN ty f V D (dC (D (nS f + i)) 0 + 1) (fun _ => 0, glt ty f (dS (D (nS f + i)))) (dC (D (nS f + i)) 1 - dC (D (nS f + i)) 0)).1 (dC (D (nS f + i)) 1) = v at *
      have hres : (if ¬ nI v = 0 then (if nI (nS f + i) < 0 ∨ 3000 ≤ nS f + i then none else if (0 : Int32) = 0 ∨ (0 : Int32) = 1 then some (Sum.inl (nI f, nI (nS (f + 1)), nI (nS f + i + 1), jx_i ρ3 125 (nS f + i) 0)) else none) else (if nI (nS f + i) < 0 ∨ 3000 ≤ nS f + i then none else if (1 : Int32) = 0 ∨ (1 : Int32) = 1 then some (Sum.inl (nI f, nI (nS (f + 1)), nI (nS f + i + 1), jx_i ρ3 125 (nS f + i) 1)) else none) : Option ((Int32 × Int32 × Int32 × jx_S) ⊕ ((Int32 × jx_S) ⊕ jx_S))) = some (Sum.inl (nI f, nI (nS (f + 1)), nI (nS f + i + 1), jx_i ρ3 125 (nS f + i) (nI (slet pN ty V D f (nS f + i))))) := by
        rw [if_neg hni, if_neg hni, if_pos (Or.inl rfl), if_pos (Or.inr rfl), hv]
        rcases (show v = 0 ∨ v = 1 by omega) with rfl | rfl
        · rw [if_neg (fun q => q rfl)]; rfl
        · rw [if_pos (by decide)]; rfl
      refine ⟨_, hres, _, by rw [show nS f + i + 1 = nS f + (i + 1) by omega], KQ_trans hk (KQ_trans k1' (KQ_trans (KQ_mono k3 (by decide) (by decide)) (KQ_i (by decide) (by decide)))), fun k q1 q2 q3 => ?_, fun j hj => ?_⟩
      · rw [s_i_eq]
        by_cases y : k = nS f + i
        · subst y
          rw [u_eq rfl]
        · rw [u_ne (by omega), k3.1 125 (by decide) (by decide), s_i_ne (by decide), k1.1 125 (by decide) (by decide)]
          exact h1 k q1 (by omega) q3
      · rw [s_i_eq, u_ne (by omega), k3.1 125 (by decide) (by decide), s_i_ne (by decide), k1.1 125 (by decide) (by decide)]
        exact h2 j hj
    · rw [if_pos (show ¬ nI (if 28 ≤ dK (D (nS f + i)) then 1 else dK (D (nS f + i))) = (5 : Int32) from fun q => by
        have := (nI_eq (b := 5) (by split <;> omega) (by omega)).1 q
        split at this <;> omega)]
      refine ⟨_, rfl, ρ', by rw [show nS f + i + 1 = nS f + (i + 1) by omega], hk, fun k q1 q2 q3 => ?_, h2⟩
      by_cases y : k = nS f + i
      · subst y; exact absurd q3 z
      · exact h1 k q1 (by omega) q3) (s := (nI f, nI (nS (f + 1)), nI (nS f), ρ)) ⟨ρ, rfl, KQ_refl, fun k q1 q2 => by omega, fun _ _ => rfl⟩ (X := fun s => some (.inl (s.1 + 1, s.2.2.2))) (fun s hs => by
    obtain ⟨ρ', rfl, hk, _⟩ := hs
    show p_r_analyse_218_s (nI f) (nI (nS (f + 1))) (nI (nS f + (nS (f + 1) - nS f))) ρ' = _
    unfold p_r_analyse_218_s
    rw [if_pos (nI_le (by omega) (by omega))]) (n := 100000000) (by omega)
  refine ⟨ρ', ?_, hk, fun k q1 q2 => h1 k q1 (by omega), h2⟩
  rw [e, nI_succ]
