/-! ANALYSIS, 16: one round in the class. -/
theorem loop_early {α β : Type} {f : α → Option (α ⊕ β)} (I : Nat → α → Prop) (P : β → Prop) : ∀ m, (∀ i s, i < m → I i s → (∃ s1, f s = some (.inl s1) ∧ I (i + 1) s1) ∨ ∃ b, f s = some (.inr b) ∧ P b) → (∀ s, I m s → ∃ b, f s = some (.inr b) ∧ P b) → ∀ i s n, I i s → i ≤ m → m - i < n → ∃ b, jx_loop n f s = some b ∧ P b := by
  intro m hs hx i s n
  generalize hj : m - i = j
  induction j generalizing i s n with
  | zero =>
    intro h hi hn
    have : i = m := by omega
    subst this
    obtain ⟨b, e, hb⟩ := hx s h
    refine ⟨b, ?_, hb⟩
    rw [show n = n - 1 + 1 by omega, jx_loop_inr e]
  | succ j ih =>
    intro h hi hn
    rcases hs i s (by omega) h with ⟨s1, e, h1⟩ | ⟨b, e, hb⟩
    · obtain ⟨b, e2, hb⟩ := ih (i + 1) s1 (n - 1) (by omega) h1 (by omega) (by omega)
      refine ⟨b, ?_, hb⟩
      rw [show n = n - 1 + 1 by omega, jx_loop_inl e, e2]
    · refine ⟨b, ?_, hb⟩
      rw [show n = n - 1 + 1 by omega, jx_loop_inr e]
/-- the round in which a value became 1 -/
def sn (nS pN : Nat → Nat) (ty : Nat → Nat → Nat) (D : Nat → jDs) : Nat → Nat → Nat → Nat
  | 0 => fun _ _ => 0
  | n + 1 => fun f c => if sn nS pN ty D n f c = 0 then (if Vn nS pN ty D (n + 1) f c = 1 then n + 1 else 0) else sn nS pN ty D n f c
theorem sn_spec {E : jEn} {F : Nat} {nS pN lN' : Nat → Nat} {ty : Nat → Nat → Nat} {W : Nat → Nat} {D : Nat → jDs} {tk : Nat → Nat} {τ ρ : jx_S} (hP : AP E F nS pN lN' ty W D tk τ ρ) {f c : Nat} (hf : f < F) (hc : c < cnt (ty f) (pN f)) : ∀ n, sn nS pN ty D n f c ≤ n ∧ (sn nS pN ty D n f c = 0 → Vn nS pN ty D n f c = 0) ∧ (sn nS pN ty D n f c ≠ 0 → Vn nS pN ty D n f c = 1) := by
  intro n
  induction n with
  | zero => exact ⟨Nat.le_refl _, fun _ => rfl, fun z => absurd rfl z⟩
  | succ n ih =>
    obtain ⟨h1, h2, h3⟩ := ih
    obtain ⟨v1, v2, v3⟩ := Vn_le (n := n) hP hf hc
    have e : sn nS pN ty D (n + 1) f c = if sn nS pN ty D n f c = 0 then (if Vn nS pN ty D (n + 1) f c = 1 then n + 1 else 0) else sn nS pN ty D n f c := rfl
    rw [e]
    by_cases z : sn nS pN ty D n f c = 0
    · rw [if_pos z]
      by_cases y : Vn nS pN ty D (n + 1) f c = 1
      · rw [if_pos y]; exact ⟨Nat.le_refl _, fun q => by omega, fun _ => y⟩
      · rw [if_neg y]; exact ⟨by omega, fun _ => by omega, fun q => by omega⟩
    · rw [if_neg z]
      have := h3 z
      exact ⟨by omega, fun q => absurd q z, fun _ => by omega⟩
def S63 (F : Nat) (nS pN : Nat → Nat) (ty : Nat → Nat → Nat) (D : Nat → jDs) (n f c : Nat) (τ : jx_S) : Prop := ∀ g, g < F → ∀ c', c' < cnt (ty g) (pN g) → τ.1 63 (1000 * g + c') = nI (if g < f ∨ (g = f ∧ c' < c) then sn nS pN ty D (n + 1) g c' else sn nS pN ty D n g c')
theorem S63_f {F : Nat} {nS pN : Nat → Nat} {ty : Nat → Nat → Nat} {D : Nat → jDs} {n f : Nat} {τ : jx_S} (h : S63 F nS pN ty D n f (cnt (ty f) (pN f)) τ) : S63 F nS pN ty D n (f + 1) 0 τ := by
  intro g hg c hc
  rw [h g hg c hc]
  by_cases z : g < f ∨ (g = f ∧ c < cnt (ty f) (pN f))
  · rw [if_pos z, if_pos (by omega)]
  · rw [if_neg z, if_neg (fun q => by
      rcases q with q | q
      · by_cases y : g = f
        · subst y; exact z (Or.inr ⟨rfl, hc⟩)
        · omega
      · omega)]
theorem c_case {τ : jx_S} {g c x r : Nat} (hg : g < 40) (hc : c < 1000) (h : τ.1 63 (1000 * g + c) = nI x) (hx : x < 2 ^ 31) (hr : τ.1 7 6 = nI r) (hr2 : r < 2 ^ 31) : v_cAna_pointOfCase (nI g) (nI c) τ = nI (if x = 0 then 0 else if r ≤ x then 0 else 1) := by
  unfold v_cAna_pointOfCase
  rw [show nI g * (1000 : Int32) = nI (g * 1000) from nI_mul g 1000, nI_add, jI_at_in (by omega) (by omega), show g * 1000 + c = 1000 * g + c by omega, h, hr]
  by_cases z : x = 0
  · subst z; rfl
  · rw [if_neg (nI_ne0 (by omega) hx), if_neg z]
    by_cases y : r ≤ x
    · rw [if_pos (nI_le y hx), if_pos y]; rfl
    · rw [if_neg (nI_ge (by omega) hr2), if_neg y]; rfl
theorem CV_of {E : jEn} {F : Nat} {nS pN lN' : Nat → Nat} {ty : Nat → Nat → Nat} {W : Nat → Nat} {D : Nat → jDs} {tk : Nat → Nat} {τ ρ τ' : jx_S} (hP : AP E F nS pN lN' ty W D tk τ ρ) {n f c : Nat} (hn : n < 1000000) (h : S63 F nS pN ty D n f c τ') (h76 : τ'.1 7 6 = nI (n + 1)) : CV F pN ty (Vn nS pN ty D n) τ' := by
  intro g hg m hm
  have hc1000 := (hP.2.2.2.2 g hg).2.2.2.2.2.2.2.1
  have hF := hP.1
  obtain ⟨s1, s2, s3⟩ := sn_spec hP hg hm n
  obtain ⟨t1, t2, t3⟩ := sn_spec hP hg hm (n + 1)
  have e : sn nS pN ty D (n + 1) g m = if sn nS pN ty D n g m = 0 then (if Vn nS pN ty D (n + 1) g m = 1 then n + 1 else 0) else sn nS pN ty D n g m := rfl
  rw [c_case (by omega) (by omega) (h g hg m hm) (by split <;> omega) h76 (by omega)]
  congr 1
  by_cases z : sn nS pN ty D n g m = 0
  · rw [s2 z]
    rw [if_pos z] at e
    by_cases q : g < f ∨ (g = f ∧ m < c)
    · rw [if_pos q]
      by_cases w : sn nS pN ty D (n + 1) g m = 0
      · rw [if_pos w]
      · rw [if_neg w]
        by_cases y : Vn nS pN ty D (n + 1) g m = 1
        · rw [if_pos y] at e
          rw [if_pos (by omega)]
        · rw [if_neg y] at e
          exact absurd e w
    · rw [if_neg q, if_pos z]
  · rw [if_neg z] at e
    have : (if g < f ∨ (g = f ∧ m < c) then sn nS pN ty D (n + 1) g m else sn nS pN ty D n g m) = sn nS pN ty D n g m := by
      by_cases q : g < f ∨ (g = f ∧ m < c)
      · rw [if_pos q, e]
      · rw [if_neg q]
    rw [this, if_neg z, if_neg (by omega), s3 z]
def CR (F : Nat) (nS pN : Nat → Nat) (ty : Nat → Nat → Nat) (D : Nat → jDs) (n f : Nat) (τ : jx_S) (c : Nat) (s : Int32 × Int32 × Int32 × jx_S) : Prop := ∃ b τ', s = (nI f, nI b, nI c, τ') ∧ b < 2 ∧ (b = 1 ↔ ∃ c', c' < c ∧ Vn nS pN ty D (n + 1) f c' ≠ Vn nS pN ty D n f c') ∧ KQ [63, 67, 69] 7 [] τ τ' ∧ S63 F nS pN ty D n f c τ'
theorem c_rstep {E : jEn} {F : Nat} {nS pN lN' : Nat → Nat} {ty : Nat → Nat → Nat} {W : Nat → Nat} {D : Nat → jDs} {tk : Nat → Nat} {τ ρ : jx_S} (hP : AP E F nS pN lN' ty W D tk τ ρ) {n f c : Nat} (hn : n < 1000000) (hf : f < F) (hc : c < cnt (ty f) (pN f)) (h76 : τ.1 7 6 = nI (n + 1)) {s : Int32 × Int32 × Int32 × jx_S} (h : CR F nS pN ty D n f τ c s) : ∃ s1, p_cAna_raiseCases_4_s s.1 s.2.1 s.2.2.1 s.2.2.2 = some (.inl s1) ∧ CR F nS pN ty D n f τ (c + 1) s1 := by
  obtain ⟨b, τ', rfl, hb, hbi, hk, hS⟩ := h
  have hP' : AP E F nS pN lN' ty W D tk τ' ρ := AP_c hP (KQ_mono hk (by decide) (by decide))
  have h76' : τ'.1 7 6 = nI (n + 1) := (hk.2.1 6 (by decide)).trans h76
  have hF := hP.1
  obtain ⟨_, _, c0, _, d⟩ := hP'.2.2.2.2 f hf
  have hc1000 := d.2.2.2.1
  obtain ⟨v1, v2, v3⟩ := Vn_le (n := n) hP hf hc
  obtain ⟨s1, s2, s3⟩ := sn_spec hP hf hc n
  have esn : sn nS pN ty D (n + 1) f c = if sn nS pN ty D n f c = 0 then (if Vn nS pN ty D (n + 1) f c = 1 then n + 1 else 0) else sn nS pN ty D n f c := rfl
  have e63 : τ'.1 63 (1000 * f + c) = nI (sn nS pN ty D n f c) := by rw [hS f hf c hc, if_neg (by omega)]
  have skip : ∀ τ'', Vn nS pN ty D (n + 1) f c = Vn nS pN ty D n f c → KQ [63, 67, 69] 7 [] τ τ'' → (∀ j, τ''.1 63 j = τ'.1 63 j) → CR F nS pN ty D n f τ (c + 1) (nI f, nI b, nI (c + 1), τ'') := by
    intro τ'' hv hk' h63
    refine ⟨b, τ'', rfl, hb, ⟨fun z => ?_, fun z => ?_⟩, hk', fun g hg c' hc' => ?_⟩
    · obtain ⟨c', q1, q2⟩ := hbi.1 z
      exact ⟨c', by omega, q2⟩
    · obtain ⟨c', q1, q2⟩ := z
      refine hbi.2 ⟨c', ?_, q2⟩
      by_cases y : c' = c
      · subst y; exact absurd hv q2
      · omega
    · rw [h63, hS g hg c' hc']
      by_cases y : g = f ∧ c' = c
      · obtain ⟨rfl, rfl⟩ := y
        rw [if_neg (by omega), if_pos (by omega), esn]
        by_cases w : sn nS pN ty D n g c' = 0
        · rw [if_pos w, if_neg (by have := s2 w; omega), w]
        · rw [if_neg w]
      · by_cases w : g < f ∨ (g = f ∧ c' < c)
        · rw [if_pos w, if_pos (by omega)]
        · rw [if_neg w, if_neg (by omega)]
  show ∃ s1, p_cAna_raiseCases_4_s (nI f) (nI b) (nI c) τ' = _ ∧ _
  unfold p_cAna_raiseCases_4_s p_cAna_raiseCases_92
  rw [jI_at_in (by omega) (by omega), c0.2.2.2.2.1, if_neg (nI_ge hc (by omega)), show nI f * (1000 : Int32) = nI (f * 1000) from nI_mul f 1000, nI_add, jI_at_in (by omega) (by omega), show f * 1000 + c = 1000 * f + c by omega, e63]
  by_cases z : sn nS pN ty D n f c = 0
  · rw [if_neg (show ¬ ¬ nI (sn nS pN ty D n f c) = 0 by rw [z]; exact fun q => q rfl)]
    obtain ⟨τ1, e1, k1, h1⟩ := c_bindCase hP' hf (show c < 2 ^ 31 by omega)
    have hP1 : AP E F nS pN lN' ty W D tk τ1 ρ := AP_c hP' (KQ_mono k1 (by decide) (by decide))
    obtain ⟨_, _, c1, _, d1⟩ := hP1.2.2.2.2 f hf
    obtain ⟨g1, g2, g3, g4⟩ := AP_rng hP hf
    have hV1 : CV F pN ty (Vn nS pN ty D n) τ1 := CV_keep (CV_of hP hn hS h76') (k1.1 63 (by decide) (by decide)) (k1.2.1 6 (by decide))
    obtain ⟨τ2, e2, k2⟩ := c_between (q := (fun _ => 0, bdc pN ty f c)) hP1 hf (Nat.le_refl _) (by omega) (by omega) g4 hV1 (LeV_n hP n) h1 (fun s hs => bdc_lt)
    rw [g2] at e2
    have hbv : (ev pN ty f (Vn nS pN ty D n) D (nS f) (fun _ => 0, bdc pN ty f c) (nS (f + 1) - nS f)).1 (nS (f + 1) - 1) = Vn nS pN ty D (n + 1) f c := by
      have : Vn nS pN ty D (n + 1) f c = bv nS pN ty D (Vn nS pN ty D n) f c := if_pos hc
      rw [this]; rfl
    rw [hbv] at e2
    rw [e1, Option.bind_some, jI_at_in (by omega) (by omega), jI_at_in (by omega) (by omega), c1.2.2.1, c1.2.2.2.1, e2, Option.bind_some]
    have k12 : KQ [63, 67, 69] 7 [] τ' τ2 := KQ_trans (KQ_mono k1 (by decide) (by decide)) (KQ_mono k2 (by decide) (by decide))
    have h63 : τ2.1 63 = τ'.1 63 := (k2.1 63 (by decide) (by decide)).trans (k1.1 63 (by decide) (by decide))
    by_cases y : Vn nS pN ty D (n + 1) f c = 1
    · rw [if_neg (show ¬ ¬ (nI (Vn nS pN ty D (n + 1) f c), τ2).1 = (1 : Int32) by rw [y]; exact fun q => q rfl)]
      refine ⟨_, rfl, 1, _, by rw [← nI_succ]; rfl, by omega, ⟨fun _ => ⟨c, by omega, by have := s2 z; omega⟩, fun _ => rfl⟩, KQ_trans (KQ_trans hk k12) (KQ_p (by decide) (by decide)), fun g hg c' hc' => ?_⟩
      have hcg := (hP.2.2.2.2 g hg).2.2.2.2.2.2.2.1
      rw [s_p_eq, jI_up_in (by omega) (by omega)]
      by_cases w : g = f ∧ c' = c
      · obtain ⟨rfl, rfl⟩ := w
        rw [u_eq rfl, if_pos (by omega), esn, if_pos z, if_pos y]
        exact (k12.2.1 6 (by decide)).trans h76'
      · rw [u_ne (by omega)]
        show τ2.1 63 _ = _
        rw [h63, hS g hg c' hc']
        by_cases u : g < f ∨ (g = f ∧ c' < c)
        · rw [if_pos u, if_pos (by omega)]
        · rw [if_neg u, if_neg (by omega)]
    · rw [if_pos (show ¬ (nI (Vn nS pN ty D (n + 1) f c), τ2).1 = (1 : Int32) from fun q => y ((nI_eq (b := 1) (by omega) (by omega)).1 q))]
      refine ⟨_, rfl, ?_⟩
      rw [← nI_succ]
      exact skip τ2 (by have := s2 z; omega) (KQ_trans hk k12) (fun j => by rw [h63])
  · rw [if_pos (nI_ne0 (by omega) (by omega))]
    refine ⟨_, rfl, ?_⟩
    rw [← nI_succ]
    exact skip τ' (by have := s3 z; omega) hk (fun _ => rfl)
theorem c_raise {E : jEn} {F : Nat} {nS pN lN' : Nat → Nat} {ty : Nat → Nat → Nat} {W : Nat → Nat} {D : Nat → jDs} {tk : Nat → Nat} {τ ρ : jx_S} (hP : AP E F nS pN lN' ty W D tk τ ρ) {n f : Nat} (hn : n < 1000000) (hf : f < F) (h76 : τ.1 7 6 = nI (n + 1)) (hS : S63 F nS pN ty D n f 0 τ) : ∃ b τ', p_cAna_raiseCases (nI f) τ = some (nI b, τ') ∧ b < 2 ∧ (b = 1 ↔ chgF nS pN ty D n f) ∧ KQ [63, 67, 69] 7 [] τ τ' ∧ S63 F nS pN ty D n (f + 1) 0 τ' := by
  have hF := hP.1
  have hc1000 := (hP.2.2.2.2 f hf).2.2.2.2.2.2.2.1
  unfold p_cAna_raiseCases p_cAna_raiseCases_4
  obtain ⟨s1, ⟨b, τ', rfl, hb, hbi, hk, hS'⟩, e⟩ := loop_invx (f := fun s : Int32 × Int32 × Int32 × jx_S => p_cAna_raiseCases_4_s s.1 s.2.1 s.2.2.1 s.2.2.2) (CR F nS pN ty D n f τ) (cnt (ty f) (pN f)) (fun i s hi h => c_rstep hP hn hf hi h76 h) (s := (nI f, (0 : Int32), (0 : Int32), τ)) ⟨0, τ, rfl, by omega, ⟨fun z => by omega, fun z => by obtain ⟨c', q, _⟩ := z; omega⟩, KQ_refl, hS⟩ (X := fun s => some (s.2.1, s.2.2.2)) (fun s hs => by
    obtain ⟨b, τ', rfl, hb, hbi, hk, hS'⟩ := hs
    have h53 := (AP_c hP (KQ_mono hk (by decide) (by decide))).2.2.2.2 f hf
    show p_cAna_raiseCases_4_s (nI f) (nI b) (nI (cnt (ty f) (pN f))) τ' = _
    unfold p_cAna_raiseCases_4_s
    rw [jI_at_in (by omega) (by omega), h53.2.2.1.2.2.2.2.1, if_pos (nI_le (Nat.le_refl _) (by omega))]
    have : nI b = 0 ∨ nI b = 1 := by
      rcases (show b = 0 ∨ b = 1 by omega) with rfl | rfl
      · exact Or.inl rfl
      · exact Or.inr rfl
    rw [if_pos this]) (n := 100000000) (by omega)
  exact ⟨b, τ', e, hb, hbi, hk, S63_f hS'⟩
