/-! CALLS, 8: function. -/
theorem r_lets {E : jEn} {G : jGh} {F : Nat} {nS pN bN lN' : Nat → Nat} {ty : Nat → Nat → Nat} {W : Nat → Nat} {D : Nat → jDs} {tk LO : Nat → Nat} {sl sp : Nat → Nat → Nat} {τ ρ : jx_S} {f w e25 : Nat} (h : RP E G F nS pN bN lN' ty W D tk LO sl sp τ ρ) (hf : f < F) (hw : w ≤ 6) (h130 : ρ.1 130 f = nI (sumN (fun i => cwL D sl f 0 (nS f + i)) (nS (f + 1) - nS f))) (h133 : Int32) (e133 : ρ.1 133 f = h133) (t p : Nat) (ht : t < 1202) (h126 : ρ.1 126 f = nI t) (h109 : ρ.1 109 t = nI p) : p_r_function2_73 (nI f) (nI w) 0 (nI (nS (f + 1))) (nI (nS f)) ρ = some (if w = 0 then nI (pN f) else if w = 1 then nI (bN f) else if w = 2 then h133 else if w = 3 then nI (lN' f) else if w = 4 then nI (sumN (fun i => cwL D sl f 0 (nS f + i)) (nS (f + 1) - nS f)) else if w = 5 then nI (sumN (fun i => cwL D sl f 1 (nS f + i)) (nS (f + 1) - nS f)) else nI p, ρ) := by
  have hF := h.1
  obtain ⟨⟨a1, a2, _⟩, _, _, ⟨d1, d2, d3, _⟩, hnd⟩ := h.2.2 f hf
  have hfi : ¬ (nI f < 0 ∨ 40 ≤ f) := fun z => by
    rcases z with z | z
    · exact nI_pos (by omega) z
    · omega
  unfold p_r_function2_73
  obtain ⟨s1, rfl, e⟩ := loop_invx (f := fun s : Int32 × Int32 × Int32 × Int32 × Int32 × jx_S => p_r_function2_73_s s.1 s.2.1 s.2.2.1 s.2.2.2.1 s.2.2.2.2.1 s.2.2.2.2.2) (fun k s => s = (nI f, nI w, nI (sumN (fun i => cwL D sl f 1 (nS f + i)) k), nI (nS (f + 1)), nI (nS f + k), ρ)) (nS (f + 1) - nS f) (fun k s hk hs => by
    subst hs
    show ∃ s1, p_r_function2_73_s (nI f) (nI w) (nI (sumN (fun i => cwL D sl f 1 (nS f + i)) k)) (nI (nS (f + 1))) (nI (nS f + k)) ρ = _ ∧ _
    obtain ⟨hA, _, _, _, _, _, n5, _⟩ := hnd (nS f + k) (by omega) (by omega)
    have h112 := hA.2.2.2.2.2.1
    have hK30 := hA.2.2.2.2.2.2.1
    have hki : ¬ (nI (nS f + k) < 0 ∨ 3000 ≤ nS f + k) := fun z => by
      rcases z with z | z
      · exact nI_pos (by omega) z
      · omega
    have es : sumN (fun i => cwL D sl f 1 (nS f + i)) (k + 1) = sumN (fun i => cwL D sl f 1 (nS f + i)) k + cwL D sl f 1 (nS f + k) := rfl
    unfold p_r_function2_73_s p_r_function2_106 p_r_function2_107
    rw [if_neg (nI_ge (show nS f + k < nS (f + 1) by omega) (by omega)), nI_clamp (show nS f + k < 2 ^ 31 by omega), if_neg hki, if_neg hki, h112, es]
    by_cases z5 : dK (D (nS f + k)) = 5
    · obtain ⟨_, _, m3, m4, _⟩ := n5 z5
      rw [z5, if_neg (show ¬ 28 ≤ 5 by omega), if_neg (show ¬ ¬ nI 5 = (5 : Int32) from fun q => q rfl), m3]
      by_cases zs : sl f (nS f + k) = 1
      · have ec : cwL D sl f 1 (nS f + k) = 1 := if_pos ⟨z5, Or.inr zs⟩
        rw [zs, if_neg (by decide), ec]
        exact ⟨_, rfl, by rw [← nI_succ, ← nI_succ, show nS f + k + 1 = nS f + (k + 1) by omega]⟩
      · have ec : cwL D sl f 1 (nS f + k) = 0 := if_neg (fun q => by
          rcases q.2 with q2 | q2
          · omega
          · exact zs q2)
        rw [show sl f (nS f + k) = 0 by omega, if_pos (show nI 0 = (0 : Int32) from rfl), ec]
        exact ⟨_, rfl, by rw [← nI_succ, Int32.add_zero, show nS f + k + 1 = nS f + (k + 1) by omega]; rfl⟩
    · have ec : cwL D sl f 1 (nS f + k) = 0 := if_neg (fun q => z5 q.1)
      rw [if_pos (show ¬ nI (if 28 ≤ dK (D (nS f + k)) then 1 else dK (D (nS f + k))) = (5 : Int32) from fun q => by
        by_cases y : 28 ≤ dK (D (nS f + k))
        · rw [if_pos y] at q; exact absurd q (by decide)
        · rw [if_neg y] at q; exact z5 ((nI_eq (b := 5) (by omega) (by omega)).1 q)), ec]
      exact ⟨_, rfl, by rw [← nI_succ, Int32.add_zero, show nS f + k + 1 = nS f + (k + 1) by omega]; rfl⟩) (s := (nI f, nI w, (0 : Int32), nI (nS (f + 1)), nI (nS f), ρ)) rfl (X := fun s => some (if w = 0 then nI (pN f) else if w = 1 then nI (bN f) else if w = 2 then h133 else if w = 3 then nI (lN' f) else if w = 4 then nI (sumN (fun i => cwL D sl f 0 (nS f + i)) (nS (f + 1) - nS f)) else if w = 5 then nI (sumN (fun i => cwL D sl f 1 (nS f + i)) (nS (f + 1) - nS f)) else nI p, ρ)) (fun s hs => by
    subst hs
    show p_r_function2_73_s (nI f) (nI w) (nI (sumN (fun i => cwL D sl f 1 (nS f + i)) (nS (f + 1) - nS f))) (nI (nS (f + 1))) (nI (nS f + (nS (f + 1) - nS f))) ρ = _
    unfold p_r_function2_73_s
    rw [if_pos (nI_le (show nS (f + 1) ≤ nS f + (nS (f + 1) - nS f) by omega) (by omega)), nI_clamp (show f < 2 ^ 31 by omega)]
    simp only [if_neg hfi]
    rw [d1, d2, d3, e133, h130, h126, if_neg (nI_in ht (by omega)), nI_clamp (show t < 2 ^ 31 by omega), h109]
    rcases (show w = 0 ∨ w = 1 ∨ w = 2 ∨ w = 3 ∨ w = 4 ∨ w = 5 ∨ w = 6 by omega) with rfl | rfl | rfl | rfl | rfl | rfl | rfl <;> rfl) (n := 100000000) (by omega)
  exact e
theorem letc_cw {D : Nat → jDs} {sl : Nat → Nat → Nat} {g : Nat → Int32} {f lo : Nat} : ∀ n, (∀ i, i < n → (g (lo + i) = nI 5 ↔ dK (D (lo + i)) = 5)) → letc g lo n = sumN (fun i => cwL D sl f 0 (lo + i)) n := by
  intro n
  induction n with
  | zero => intro _; rfl
  | succ n ih =>
    intro h
    have e : sumN (fun i => cwL D sl f 0 (lo + i)) (n + 1) = sumN (fun i => cwL D sl f 0 (lo + i)) n + cwL D sl f 0 (lo + n) := rfl
    rw [letc, ih (fun i hi => h i (by omega)), e]
    congr 1
    unfold cwL
    by_cases z : g (lo + n) = nI 5
    · rw [if_pos z, if_pos ⟨(h n (by omega)).1 z, Or.inl rfl⟩]
    · rw [if_neg z, if_neg (fun q => z ((h n (by omega)).2 q.1))]
theorem call_function {τ ρ : jx_S} (h : IV2 τ ρ) (x1 x2 : Int32) : (∃ r ρ', p_cl_function x1 x2 τ = some (r, τ) ∧ p_r_function2 x1 x2 ρ = some (r, ρ') ∧ ρ'.1 106 2 = 0 ∧ IV2 τ ρ') ∨ ((v_cl_hasFunction x1 τ = 0 ∨ (v_cl_hasFunction x1 τ = 1 ∧ (x2 < 0 ∨ ¬ x2 ≤ 6))) ∧ ∃ ρ', p_r_function2 x1 x2 ρ = some (0, ρ') ∧ ρ'.1 106 2 = 1 ∧ IV2 τ ρ') := by
  have no : p_r_function2_19 x1 x2 ρ = some (0, jx_i ρ 106 2 1) := by
    unfold p_r_function2_19 p_r_function2_24
    rw [if_neg (by decide)]
  have no2 : (jx_i ρ 106 2 1).1 106 2 = 1 := by rw [s_i_eq, u_eq rfl]
  rcases has_or h x1 with ⟨q1, q2⟩ | ⟨q1, q2, f, τ1, ρ1, E, G, F, nS, tS, R, pN, bN, lN', ty, V, rfl, hf, hUS, hC, hR⟩
  · right
    refine ⟨Or.inl q1, _, ?_, no2, IV2_2 h⟩
    unfold p_r_function2
    rw [q2, if_pos (by decide)]; exact no
  · by_cases hx : x2 < 0 ∨ ¬ x2 ≤ 6
    · right
      refine ⟨Or.inr ⟨q1, hx⟩, _, ?_, no2, IV2_2 h⟩
      unfold p_r_function2
      rw [q2, if_neg (fun q => q rfl), no]
      by_cases y1 : x2 < 0
      · rw [if_pos y1]
      · rw [if_neg y1, if_neg (by
          rcases hx with q | q
          · exact absurd q y1
          · exact q)]
    · left
      have y1 : ¬ x2 < 0 := fun q => hx (Or.inl q)
      have y2 : x2 ≤ 6 := Classical.byContradiction (fun q => hx (Or.inr q))
      obtain ⟨w, w1, rfl⟩ := nI_ofP y1
      have hw : w ≤ 6 := Classical.byContradiction (fun q => (nI_ge (show 6 < w by omega) w1) y2)
      obtain ⟨hRP, e1, e2, e3⟩ := use_of hUS hC hR
      obtain ⟨⟨a1, a2, a3, a4, a5⟩, ⟨b1, b2, b3, b4, b5⟩, ⟨c1, c2, c3, c4, c5⟩, ⟨d1, d2, d3, d4, d5⟩, hnd⟩ := hRP.2.2 f hf
      obtain ⟨hE, hEC, hER, hEV, hAP, hAN, ⟨hn0, hnm⟩, hUF, u⟩ := id hUS
      obtain ⟨_, _, ⟨_, _, p49, _, p53, _⟩, ⟨_, _, p132, _, p133, _⟩, ⟨_, _, _, pc, _⟩⟩ := hAP.2.2.2.2 f hf
      obtain ⟨_, _, ⟨_, _, _, p41, p126, ptS, p130, _⟩, _⟩ := hUF f hf
      have hec := hE.1
      have cC : ∀ k j, k < 106 → k ∉ dynM → k ≠ 0 → k ≠ 8 → k ≠ 9 → τ.1 k j = τ1.1 k j := fun k j k1 k2 k3 k4 k5 => (hC k j k1 k2 (fun q => by
        simp only [fs_cl_run, List.mem_cons, List.not_mem_nil, or_false, Prod.mk.injEq] at q
        omega)).1
      have rR : ∀ k j, 106 < k → k < 171 → k ∉ dynR → ρ.1 k j = ρ1.1 k j := fun k j k1 k2 k3 => (hR k j (by omega) k2 k3 (fun q => by
        simp only [fs_r_run, List.mem_cons, List.not_mem_nil, or_false, Prod.mk.injEq] at q
        omega)).1
      have e17 : τ.1 17 (tS f) = nI (eP E (tS f)) := by
        rw [cC 17 _ (by decide) (by decide) (by decide) (by decide) (by decide)]; exact (hEC _ (by omega)).2.1
      have e109 : ρ.1 109 (tS f) = nI (eP E (tS f)) := by
        rw [rR 109 _ (by decide) (by decide) (by decide)]; exact (hER.2 _ (by omega)).2.1
      have e49 : τ.1 49 f = nI (nS f + 1) := by rw [cC 49 _ (by decide) (by decide) (by decide) (by decide) (by decide)]; exact p49
      have e41 : τ.1 41 f = nI (tS f) := by rw [cC 41 _ (by decide) (by decide) (by decide) (by decide) (by decide)]; exact p41
      have e53 : τ.1 53 f = nI (cnt (ty f) (pN f)) := by rw [cC 53 _ (by decide) (by decide) (by decide) (by decide) (by decide)]; exact p53
      have e126 : ρ.1 126 f = nI (tS f) := by rw [rR 126 _ (by decide) (by decide) (by decide)]; exact p126
      have e132 : ∀ g, g < F → ρ.1 132 g = nI (nS g) := fun g hg => by
        rw [rR 132 _ (by decide) (by decide) (by decide)]; exact (hAP.2.2.2.2 g hg).2.2.2.1.2.2.1
      have e133 : ρ.1 133 f = nI (cnt (ty f) (pN f)) := by rw [rR 133 _ (by decide) (by decide) (by decide)]; exact p133
      have e130 : ρ.1 130 f = nI (sumN (fun i => cwL (dsc R ρ1) (slet pN ty V (dsc R ρ1)) f 0 (nS f + i)) (nS (f + 1) - nS f)) := by
        rw [rR 130 _ (by decide) (by decide) (by decide), p130]
        congr 1
        refine letc_cw _ (fun i hi => ?_)
        obtain ⟨hA, _⟩ := hnd (nS f + i) (by omega) (by omega)
        have h112 := hA.2.2.2.2.2.1
        have hK30 := hA.2.2.2.2.2.2.1
        rw [rR 112 _ (by decide) (by decide) (by decide)] at h112
        rw [h112]
        by_cases y : 28 ≤ dK (dsc R ρ1 (nS f + i))
        · rw [if_pos y]
          exact ⟨fun q => absurd q (by decide), fun q => by omega⟩
        · rw [if_neg y]
          exact ⟨fun q => (nI_eq (by omega) (by omega)).1 q, fun q => by rw [q]⟩
      have hfi : ¬ (nI f < 0 ∨ 40 ≤ f) := fun z => by
        rcases z with z | z
        · exact nI_pos (by omega) z
        · omega
      have hRP2 : RP E G F nS pN bN lN' ty (wtN ρ1) (dsc R ρ1) (fun k => (R k).2.1) (fun k => (R k).2.2.2.1) (slet pN ty V (dsc R ρ1)) (spar pN ty V) τ (jx_i ρ 106 2 0) := RP_keep hRP (fun _ _ => rfl) rfl (fun r hr => s_i_ne (fun q => by subst q; revert hr; decide))
      have hrl := r_lets (w := w) (e25 := 0) hRP2 hf hw (by rw [s_i_ne (by decide)]; exact e130) (nI (cnt (ty f) (pN f))) (by rw [s_i_ne (by decide)]; exact e133) (tS f) (eP E (tS f)) (by omega) (by rw [s_i_ne (by decide)]; exact e126) (by rw [s_i_ne (by decide)]; exact e109)
      have hc0 := c_lets (b := 0) hRP hf (by omega) e49
      have hc1 := c_lets (b := 1) hRP hf (by omega) e49
      refine ⟨(if w = 0 then nI (pN f) else if w = 1 then nI (bN f) else if w = 2 then nI (cnt (ty f) (pN f)) else if w = 3 then nI (lN' f) else if w = 4 then nI (sumN (fun i => cwL (dsc R ρ1) (slet pN ty V (dsc R ρ1)) f 0 (nS f + i)) (nS (f + 1) - nS f)) else if w = 5 then nI (sumN (fun i => cwL (dsc R ρ1) (slet pN ty V (dsc R ρ1)) f 1 (nS f + i)) (nS (f + 1) - nS f)) else nI (eP E (tS f))), jx_i ρ 106 2 0, ?_, ?_, by rw [s_i_eq, u_eq rfl], IV2_2 h⟩
      rotate_left
      · unfold p_r_function2 p_r_function2_24 p_r_function2_63
        rw [q2, if_neg (fun q => q rfl), if_neg y1, if_pos y2, if_pos (by decide), e2, show nI f + (1 : Int32) = nI (f + 1) from (nI_succ f).symm, nI_clamp (show f < 2 ^ 31 by omega), if_neg hfi, if_neg hfi, s_i_ne (by decide), e132 f hf]
        by_cases y : f + 1 < F
        · rw [if_neg (nI_ge y (by omega)), if_neg (nI_in (show f + 1 < 40 by omega) (by omega)), nI_clamp (show f + 1 < 2 ^ 31 by omega), e132 (f + 1) y]
          exact hrl
        · rw [if_pos (nI_le (by omega) (by omega)), (hR 106 25 (by decide) (by decide) (by decide) (by decide)).1, hAP.2.2.2.1, show F = f + 1 by omega]
          exact hrl
      · unfold p_cl_function
        rw [q1, if_neg (by decide), if_neg y1, if_pos y2, jI_at_in (show f < 40 by omega) (by omega), jI_at_in (show f < 40 by omega) (by omega), jI_at_in (show f < 40 by omega) (by omega), jI_at_in (show f < 40 by omega) (by omega), jI_at_in (show f < 40 by omega) (by omega), c1, c2, c3, e53, e41, jI_at_in (show tS f < 1201 by omega) (by omega), e17, show p_cAna_countLets (nI f) (0 : Int32) τ = _ from hc0, show p_cAna_countLets (nI f) (1 : Int32) τ = _ from hc1]
        rcases (show w = 0 ∨ w = 1 ∨ w = 2 ∨ w = 3 ∨ w = 4 ∨ w = 5 ∨ w = 6 by omega) with rfl | rfl | rfl | rfl | rfl | rfl | rfl <;> rfl
