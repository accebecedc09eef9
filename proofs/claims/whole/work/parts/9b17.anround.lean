/-! ANALYSIS, 17: which functions may change; a whole round in the class. -/
def LC (F : Nat) (nS pN : Nat → Nat) (ty : Nat → Nat → Nat) (D : Nat → jDs) (n f : Nat) (τ : jx_S) : Prop := ∀ g, g < F → ∃ x, τ.1 65 g = nI x ∧ x ≤ n + 1 ∧ (x < n → ∀ m, n = m + 1 → ¬ chgF nS pN ty D m g) ∧ (g < f → chgF nS pN ty D n g → x = n + 1)
theorem c_may {E : jEn} {F : Nat} {nS pN lN' : Nat → Nat} {ty : Nat → Nat → Nat} {W : Nat → Nat} {D : Nat → jDs} {tk : Nat → Nat} {τ ρ : jx_S} (hP : AP E F nS pN lN' ty W D tk τ ρ) {n f f' : Nat} (hn : n < 1000000) (hf : f < F) (h76 : τ.1 7 6 = nI (n + 1)) (hC : LC F nS pN ty D n f' τ) : ∃ b, p_cAna_mayChange (nI f) τ = some (nI b, τ) ∧ b < 2 ∧ (b = 0 → Vn nS pN ty D (n + 1) f = Vn nS pN ty D n f) := by
  have hF := hP.1
  obtain ⟨⟨g1, g2, g3⟩, g4, c, _, d⟩ := hP.2.2.2.2 f hf
  unfold p_cAna_mayChange
  rw [h76]
  cases n with
  | zero => exact ⟨1, if_neg (fun q => q rfl), by omega, fun q => by omega⟩
  | succ m =>
    rw [if_pos (show ¬ nI (m + 1 + 1) = (1 : Int32) from fun q => by have := (nI_eq (b := 1) (by omega) (by omega)).1 q; omega), jI_at_in (by omega) (by omega), c.2.2.1]
    unfold p_cAna_mayChange_22
    obtain ⟨b, e, b', rfl, hb2, hb3⟩ := loop_early (f := fun s : Int32 × Int32 × jx_S => p_cAna_mayChange_22_s s.1 s.2.1 s.2.2) (fun i s => s = (nI f, nI (nS f + 1 + i), τ) ∧ ∀ k, nS f ≤ k → k < nS f + i → dK (D k) = 29 → ¬ chgF nS pN ty D m (dG (D k))) (fun b => ∃ b', b = (nI b', τ) ∧ b' < 2 ∧ (b' = 0 → Vn nS pN ty D (m + 2) f = Vn nS pN ty D (m + 1) f)) (nS (f + 1) - nS f) (fun i s hi h => by
      obtain ⟨rfl, h⟩ := h
      obtain ⟨hA, hok, _, _⟩ := g4 (nS f + i) (by omega) (by omega)
      have e23 : τ.1 23 (nS f + 1 + i) = nI (dK (D (nS f + i))) := by rw [show nS f + 1 + i = nS f + i + 1 by omega]; exact hA.2.2.2.2.1
      have hk30 := hA.2.2.2.2.2.2.1
      show (∃ s1, p_cAna_mayChange_22_s (nI f) (nI (nS f + 1 + i)) τ = _ ∧ _) ∨ ∃ b, p_cAna_mayChange_22_s (nI f) (nI (nS f + 1 + i)) τ = _ ∧ _
      unfold p_cAna_mayChange_22_s p_cAna_mayChange_82
      rw [jI_at_in (by omega) (by omega), c.2.2.2.1, if_neg (nI_nlt (by omega) (by omega)), jI_at_in (by omega) (by omega), e23, ← nI_succ]
      by_cases z : dK (D (nS f + i)) = 29
      · have e33 : τ.1 33 (nS f + 1 + i) = nI (dG (D (nS f + i))) := by
          rw [show nS f + 1 + i = nS f + i + 1 by omega]; exact (hA.2.2.2.2.2.2.2.2.2.2.2.2.2.2.1 z).2.2
        have hG : dG (D (nS f + i)) < F := by
          have h3 := hok.2.2
          rcases h3 with h3 | h3 | h3 | h3 | h3 | h3
          · omega
          · omega
          · omega
          · omega
          · exact h3.2.1
          · omega
        obtain ⟨x, x1, x2, x3, x4⟩ := hC _ hG
        rw [if_neg (show ¬ ¬ nI (dK (D (nS f + i))) = (29 : Int32) by rw [z]; exact fun q => q rfl), jI_at_in (by omega) (by omega), e33, jI_at_in (by omega) (by omega), x1, h76, show nI (m + 1 + 1) - (1 : Int32) = nI (m + 1) from nI_pred (m + 1)]
        by_cases y : x < m + 1
        · rw [if_pos (nI_lt y (by omega))]
          refine Or.inl ⟨_, rfl, by rw [show nS f + 1 + i + 1 = nS f + 1 + (i + 1) by omega], fun k k1 k2 k3 => ?_⟩
          by_cases w : k = nS f + i
          · subst w; exact x3 y m rfl
          · exact h k k1 (by omega) k3
        · rw [if_neg (nI_nlt (by omega) (by omega))]
          exact Or.inr ⟨_, rfl, 1, rfl, by omega, fun q => by omega⟩
      · rw [if_pos (show ¬ nI (dK (D (nS f + i))) = (29 : Int32) from fun q => z ((nI_eq (b := 29) (by omega) (by omega)).1 q))]
        refine Or.inl ⟨_, rfl, by rw [show nS f + 1 + i + 1 = nS f + 1 + (i + 1) by omega], fun k k1 k2 k3 => ?_⟩
        by_cases w : k = nS f + i
        · subst w; exact absurd k3 z
        · exact h k k1 (by omega) k3) (fun s hs => by
      obtain ⟨rfl, h⟩ := hs
      show ∃ b, p_cAna_mayChange_22_s (nI f) (nI (nS f + 1 + (nS (f + 1) - nS f))) τ = _ ∧ _
      unfold p_cAna_mayChange_22_s
      rw [jI_at_in (by omega) (by omega), c.2.2.2.1, if_pos (nI_lt (by omega) (by omega))]
      exact ⟨_, rfl, 0, rfl, by omega, fun _ => Vn_keep hP hf (fun k k1 k2 => h k k1 (by omega))⟩) 0 (nI f, nI (nS f + 1), τ) 100000000 ⟨rfl, fun k k1 k2 => by omega⟩ (by omega) (by omega)
    exact ⟨b', e, hb2, hb3⟩
/-- the class in the midst of round n + 1, at function f -/
def CM (F : Nat) (nS pN : Nat → Nat) (ty : Nat → Nat → Nat) (D : Nat → jDs) (n : Nat) (x3 : Int32) (τ : jx_S) (f : Nat) (s : Int32 × Int32 × Int32 × jx_S) : Prop := ∃ b τ', s = (nI b, x3, nI f, τ') ∧ b < 2 ∧ (b = 1 ↔ ∃ g, g < f ∧ chgF nS pN ty D n g) ∧ KQ [63, 65, 67, 69] 7 [] τ τ' ∧ S63 F nS pN ty D n f 0 τ' ∧ LC F nS pN ty D n f τ'
theorem sn_same {nS pN : Nat → Nat} {ty : Nat → Nat → Nat} {D : Nat → jDs} {n f c : Nat} (h : Vn nS pN ty D (n + 1) f c = Vn nS pN ty D n f c) (h2 : sn nS pN ty D n f c = 0 → Vn nS pN ty D n f c = 0) : sn nS pN ty D (n + 1) f c = sn nS pN ty D n f c := by
  have e : sn nS pN ty D (n + 1) f c = if sn nS pN ty D n f c = 0 then (if Vn nS pN ty D (n + 1) f c = 1 then n + 1 else 0) else sn nS pN ty D n f c := rfl
  rw [e]
  by_cases z : sn nS pN ty D n f c = 0
  · rw [if_pos z, if_neg (by have := h2 z; omega), z]
  · rw [if_neg z]
theorem c_mstep {E : jEn} {F : Nat} {nS pN lN' : Nat → Nat} {ty : Nat → Nat → Nat} {W : Nat → Nat} {D : Nat → jDs} {tk : Nat → Nat} {τ ρ : jx_S} (hP : AP E F nS pN lN' ty W D tk τ ρ) {n f : Nat} {x3 : Int32} (hn : n < 1000000) (hf : f < F) (h76 : τ.1 7 6 = nI (n + 1)) {s : Int32 × Int32 × Int32 × jx_S} (h : CM F nS pN ty D n x3 τ f s) : ∃ s1, p_cAna_analyse_41_s s.1 s.2.1 s.2.2.1 s.2.2.2 = some (.inl s1) ∧ CM F nS pN ty D n x3 τ (f + 1) s1 := by
  obtain ⟨b, τ', rfl, hb, hbi, hk, hS, hC⟩ := h
  have hF := hP.1
  have hP' : AP E F nS pN lN' ty W D tk τ' ρ := AP_c hP (KQ_mono hk (by decide) (by decide))
  have h76' : τ'.1 7 6 = nI (n + 1) := (hk.2.1 6 (by decide)).trans h76
  obtain ⟨m, em, hm2, hm3⟩ := c_may hP' hn hf h76' hC
  have noch : ¬ chgF nS pN ty D n f → (b = 1 ↔ ∃ g, g < f + 1 ∧ chgF nS pN ty D n g) := fun hno => by
    rw [hbi]
    refine ⟨fun z => ?_, fun z => ?_⟩
    · obtain ⟨g, q1, q2⟩ := z; exact ⟨g, by omega, q2⟩
    · obtain ⟨g, q1, q2⟩ := z
      refine ⟨g, ?_, q2⟩
      by_cases y : g = f
      · subst y; exact absurd q2 hno
      · omega
  have LCs : ∀ τ'', ¬ chgF nS pN ty D n f → τ''.1 65 = τ'.1 65 → LC F nS pN ty D n (f + 1) τ'' := fun τ'' hno h65 g hg => by
    obtain ⟨x, x1, x2, x3, x4⟩ := hC g hg
    refine ⟨x, by rw [h65]; exact x1, x2, x3, fun q1 q2 => ?_⟩
    by_cases y : g = f
    · subst y; exact absurd q2 hno
    · exact x4 (by omega) q2
  show ∃ s1, p_cAna_analyse_41_s (nI b) x3 (nI f) τ' = _ ∧ _
  unfold p_cAna_analyse_41_s p_cAna_analyse_86
  rw [hP'.2.1, if_neg (nI_ge hf (by omega)), em, Option.bind_some]
  by_cases z : m = 0
  · rw [if_pos (show (nI m, τ').1 = 0 by rw [z]; rfl)]
    have hv := hm3 z
    have hno : ¬ chgF nS pN ty D n f := fun q => by
      obtain ⟨c, _, q2⟩ := q
      exact q2 (by rw [hv])
    refine ⟨_, rfl, b, τ', by rw [← nI_succ], hb, noch hno, hk, S63_f (fun g hg c hc => ?_), LCs τ' hno rfl⟩
    rw [hS g hg c hc]
    by_cases y : g = f
    · subst y
      rw [if_neg (by omega), if_pos (Or.inr ⟨rfl, hc⟩), sn_same (by rw [hv]) (sn_spec hP hg hc n).2.1]
    · by_cases w : g < f
      · rw [if_pos (Or.inl w), if_pos (Or.inl w)]
      · rw [if_neg (by omega), if_neg (by omega)]
  · rw [if_neg (show ¬ (nI m, τ').1 = 0 from nI_ne0 (by omega) (by omega))]
    obtain ⟨b2, τ2, e2, hb2, hbi2, k2, hS2⟩ := c_raise hP' hn hf h76' hS
    show ∃ s1, ((p_cAna_raiseCases (nI f) τ').bind _) = _ ∧ _
    rw [e2, Option.bind_some]
    have k2' : KQ [63, 65, 67, 69] 7 [] τ τ2 := KQ_trans hk (KQ_mono k2 (by decide) (by decide))
    by_cases y : b2 = 0
    · rw [if_pos (show (nI b2, τ2).1 = 0 by rw [y]; rfl)]
      have hno : ¬ chgF nS pN ty D n f := fun q => by have := hbi2.2 q; omega
      exact ⟨_, rfl, b, τ2, by rw [← nI_succ], hb, noch hno, k2', hS2, LCs τ2 hno (k2.1 65 (by decide) (by decide))⟩
    · rw [if_neg (show ¬ (nI b2, τ2).1 = 0 from nI_ne0 (by omega) (by omega))]
      have hch := hbi2.1 (by omega)
      refine ⟨_, rfl, 1, _, by rw [← nI_succ]; rfl, by omega, ⟨fun _ => ⟨f, by omega, hch⟩, fun _ => rfl⟩, KQ_trans k2' (KQ_p (by decide) (by decide)), fun g hg c hc => ?_, fun g hg => ?_⟩
      · rw [s_p_ne (by decide)]; exact hS2 g hg c hc
      · rw [s_p_eq, jI_up_in (by omega) (by omega)]
        show ∃ x, upd (τ2.1 65) f (τ2.1 7 6) g = _ ∧ _
        by_cases w : g = f
        · subst w
          exact ⟨n + 1, by rw [u_eq rfl]; exact (k2.2.1 6 (by decide)).trans h76', by omega, fun q => by omega, fun _ _ => rfl⟩
        · rw [u_ne w, show τ2.1 65 = τ'.1 65 from k2.1 65 (by decide) (by decide)]
          obtain ⟨x, x1, x2, x3, x4⟩ := hC g hg
          exact ⟨x, x1, x2, x3, fun q1 q2 => x4 (by omega) q2⟩
/-- the class between rounds: after n of them -/
def CI (F : Nat) (nS pN : Nat → Nat) (ty : Nat → Nat → Nat) (D : Nat → jDs) (n : Nat) (τ : jx_S) : Prop := τ.1 7 6 = nI n ∧ (∀ g, g < F → ∀ c, c < cnt (ty g) (pN g) → τ.1 63 (1000 * g + c) = nI (sn nS pN ty D n g c)) ∧ ∀ g, g < F → ∃ x, τ.1 65 g = nI x ∧ x ≤ n ∧ ∀ m, n = m + 1 → chgF nS pN ty D m g → x = n
theorem c_round {E : jEn} {F : Nat} {nS pN lN' : Nat → Nat} {ty : Nat → Nat → Nat} {W : Nat → Nat} {D : Nat → jDs} {tk : Nat → Nat} {τ ρ : jx_S} (hP : AP E F nS pN lN' ty W D tk τ ρ) {n : Nat} {x3 : Int32} (hn : n < 1000000) (hI : CI F nS pN ty D n τ) : ∃ b τ', p_cAna_analyse_41 0 x3 0 (jx_i τ 7 6 (τ.1 7 6 + 1)) = some (.inl (nI b, x3 + 1, τ')) ∧ b < 2 ∧ (b = 1 ↔ chg F nS pN ty D n) ∧ KQ [63, 65, 67, 69] 7 [6] τ τ' ∧ CI F nS pN ty D (n + 1) τ' := by
  have hF := hP.1
  obtain ⟨i1, i2, i3⟩ := hI
  have e7 : τ.1 7 6 + 1 = nI (n + 1) := by rw [i1, nI_succ]
  rw [e7]
  have k0 : KQ [63, 65, 67, 69] 7 [6] τ (jx_i τ 7 6 (nI (n + 1))) := KQ_f (by decide)
  have hP0 : AP E F nS pN lN' ty W D tk (jx_i τ 7 6 (nI (n + 1))) ρ := AP_c hP (KQ_mono k0 (by decide) (by decide))
  have h76 : (jx_i τ 7 6 (nI (n + 1))).1 7 6 = nI (n + 1) := by rw [s_i_eq, u_eq rfl]
  unfold p_cAna_analyse_41
  obtain ⟨s1, ⟨b, τ', rfl, hb, hbi, hk, hS, hC⟩, e⟩ := loop_invx (f := fun s : Int32 × Int32 × Int32 × jx_S => p_cAna_analyse_41_s s.1 s.2.1 s.2.2.1 s.2.2.2) (CM F nS pN ty D n x3 (jx_i τ 7 6 (nI (n + 1)))) F (fun i s hi h => c_mstep hP0 hn hi h76 h) (s := ((0 : Int32), x3, (0 : Int32), jx_i τ 7 6 (nI (n + 1)))) ⟨0, _, rfl, by omega, ⟨fun z => by omega, fun z => by obtain ⟨c', q, _⟩ := z; omega⟩, KQ_refl, fun g hg c hc => by
      rw [s_i_ne (by decide), if_neg (by omega)]; exact i2 g hg c hc, fun g hg => by
      obtain ⟨x, x1, x2, x3⟩ := i3 g hg
      exact ⟨x, by rw [s_i_ne (by decide)]; exact x1, by omega, fun q m hm z => by have := x3 m hm z; omega, fun q => by omega⟩⟩ (X := fun s => some (.inl (s.1, s.2.1 + 1, s.2.2.2))) (fun s hs => by
    obtain ⟨b, τ', rfl, hb, hbi, hk, hS, hC⟩ := hs
    have hP' : AP E F nS pN lN' ty W D tk τ' ρ := AP_c hP0 (KQ_mono hk (by decide) (by decide))
    show p_cAna_analyse_41_s (nI b) x3 (nI F) τ' = _
    unfold p_cAna_analyse_41_s
    rw [hP'.2.1, if_pos (nI_le (Nat.le_refl _) (by omega))]) (n := 100000000) (by omega)
  refine ⟨b, τ', e, hb, hbi, KQ_trans k0 (KQ_mono hk (by decide) (by decide)), (hk.2.1 6 (by decide)).trans h76, fun g hg c hc => ?_, fun g hg => ?_⟩
  · rw [hS g hg c hc, if_pos (Or.inl hg)]
  · obtain ⟨x, x1, x2, x3, x4⟩ := hC g hg
    exact ⟨x, x1, x2, fun m hm q => x4 hg (by rw [show n = m by omega]; exact q)⟩
