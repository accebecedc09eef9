/-! ANALYSIS, 18: a whole round in the reference. -/
def R147 (F : Nat) (nS pN : Nat → Nat) (ty : Nat → Nat → Nat) (D : Nat → jDs) (n f c : Nat) (ρ : jx_S) : Prop := ∀ g, g < F → ∀ c', c' < cnt (ty g) (pN g) → g < f ∨ (g = f ∧ c' < c) → ρ.1 147 (1000 * g + c') = nI (Vn nS pN ty D (n + 1) g c')
def RR (F : Nat) (nS pN : Nat → Nat) (ty : Nat → Nat → Nat) (D : Nat → jDs) (n f b0 : Nat) (ρ : jx_S) (c : Nat) (s : Int32 × Int32 × Int32 × jx_S) : Prop := ∃ b ρ', s = (nI b, nI f, nI c, ρ') ∧ b < 2 ∧ (b = 1 ↔ b0 = 1 ∨ ∃ c', c' < c ∧ Vn nS pN ty D (n + 1) f c' ≠ Vn nS pN ty D n f c') ∧ KQ [147, 148, 149] 106 [56] ρ ρ' ∧ R147 F nS pN ty D n f c ρ'
theorem r_rstep {E : jEn} {F : Nat} {nS pN lN' : Nat → Nat} {ty : Nat → Nat → Nat} {W : Nat → Nat} {D : Nat → jDs} {tk : Nat → Nat} {τ ρ : jx_S} (hP : AP E F nS pN lN' ty W D tk τ ρ) {n f c b0 : Nat} (hf : f < F) (hc : c < cnt (ty f) (pN f)) (hV : RV F pN ty (Vn nS pN ty D n) ρ) {s : Int32 × Int32 × Int32 × jx_S} (h : RR F nS pN ty D n f b0 ρ c s) : ∃ s1, p_r_round_14_s s.1 s.2.1 s.2.2.1 s.2.2.2 = some (.inl s1) ∧ RR F nS pN ty D n f b0 ρ (c + 1) s1 := by
  obtain ⟨b, ρ', rfl, hb, hbi, hk, h147⟩ := h
  have hF := hP.1
  have hP' : AP E F nS pN lN' ty W D tk τ ρ' := AP_r hP (KQ_mono hk (by decide) (by decide))
  obtain ⟨_, _, _, c0, d⟩ := hP'.2.2.2.2 f hf
  have hc1000 := d.2.2.2.1
  obtain ⟨v1, v2, v3⟩ := Vn_le (n := n) hP hf hc
  obtain ⟨ρ1, e1, k1, h56, h1⟩ := r_great hP' hf
  have hP1 : AP E F nS pN lN' ty W D tk τ ρ1 := AP_r hP' (KQ_mono k1 (by decide) (by decide))
  obtain ⟨_, _, _, c1, d1⟩ := hP1.2.2.2.2 f hf
  obtain ⟨ρ2, k2, h2, cc, e2⟩ := r_digits (t := ty f) (nI b) (nI c) (show f < 40 by omega) (pN f) c ρ1 d1.1 (by omega) (fun i hi => ⟨d1.2.2.2.2 i (by omega), c1.2.2.2.2.2.2 i hi⟩)
  have hP2 : AP E F nS pN lN' ty W D tk τ ρ2 := AP_r hP1 (KQ_mono k2 (by decide) (by decide))
  obtain ⟨_, _, _, c2, d2⟩ := hP2.2.2.2.2 f hf
  obtain ⟨g1, g2, g3, g4⟩ := AP_rng hP hf
  have hV2 : RV F pN ty (Vn nS pN ty D n) ρ2 := fun g hg m hm => by
    rw [k2.1 146 (by decide) (by decide), k1.1 146 (by decide) (by decide), hk.1 146 (by decide) (by decide)]
    exact hV g hg m hm
  obtain ⟨ρ3, e3, k3⟩ := r_between (q := (fun _ => 0, bdc pN ty f c)) hP2 hf (Nat.le_refl _) (by omega) (by omega) g4 hV2 ((k2.2.1 56 (by decide)).trans h56) (LeV_n hP n) (fun s hs => by
    rw [h2 s]
    show _ = nI (bdc pN ty f c s)
    unfold bdc
    by_cases z : s < pN f
    · rw [if_pos z, if_pos z]
    · rw [if_neg z, if_neg z, h1 s hs]) (fun s hs => bdc_lt)
  rw [g2] at e3
  have hbv : (ev pN ty f (Vn nS pN ty D n) D (nS f) (fun _ => 0, bdc pN ty f c) (nS (f + 1) - nS f)).1 (nS (f + 1) - 1) = Vn nS pN ty D (n + 1) f c := by
    have : Vn nS pN ty D (n + 1) f c = bv nS pN ty D (Vn nS pN ty D n) f c := if_pos hc
    rw [this]; rfl
  rw [hbv] at e3
  have h8 := d1.1
  have hni : ¬ (nI f < 0 ∨ 40 ≤ f) := fun z => by
    rcases z with z | z
    · exact nI_pos (by omega) z
    · omega
  have k13 : KQ [147, 148, 149] 106 [56] ρ' ρ3 := KQ_trans (KQ_mono k1 (by decide) (by decide)) (KQ_trans (KQ_mono k2 (by decide) (by decide)) (KQ_mono k3 (by decide) (by decide)))
  have e146 : ρ3.1 146 (1000 * f + c) = nI (Vn nS pN ty D n f c) := by
    rw [k13.1 146 (by decide) (by decide), hk.1 146 (by decide) (by decide)]
    exact hV f hf c hc
  have e1000 : (1000 : Int32) * nI f + nI c = nI (1000 * f + c) := by rw [show (1000 : Int32) = nI 1000 from rfl, nI_mul, nI_add]
  show ∃ s1, p_r_round_14_s (nI b) (nI f) (nI c) ρ' = _ ∧ _
  unfold p_r_round_14_s
  rw [nI_clamp (show f < 2 ^ 31 by omega), if_neg hni, c0.2.2.2.2.1, if_neg (nI_ge hc (by omega)), e1, Option.bind_some, if_neg hni, c1.1]
  unfold p_r_round_42
  show ∃ s1, jx_loop 100000000 rA42 _ = _ ∧ _
  rw [show 100000000 = (100000000 - pN f - 1 + 1) + pN f by omega, e2]
  have eo : rA42 (nI b, nI f, nI c, cc, -1, ρ2) = (some (Sum.inl (nI (b ||| if Vn nS pN ty D (n + 1) f c = Vn nS pN ty D n f c then 0 else 1), nI f, nI (c + 1), jx_i ρ3 147 (1000 * f + c) (nI (Vn nS pN ty D (n + 1) f c))))).map Sum.inr := by
    show p_r_round_42_s (nI b) (nI f) (nI c) cc (-1) ρ2 = _
    unfold p_r_round_42_s p_r_round_150
    rw [if_pos (by decide), nI_clamp (show f < 2 ^ 31 by omega), if_neg hni, if_neg hni, c2.2.2.1, c2.2.2.2.1, e3, Option.bind_some, e1000, if_neg (nI_in (show 1000 * f + c < 40000 by omega) (by omega)), if_neg (nI_in (show 1000 * f + c < 40000 by omega) (by omega)), if_neg (nI_in (show 1000 * f + c < 40000 by omega) (by omega)), nI_clamp (show 1000 * f + c < 2 ^ 31 by omega), s_i_eq, u_eq rfl]
    show Option.map Sum.inr (if nI (Vn nS pN ty D (n + 1) f c) = ρ3.1 146 (1000 * f + c) then _ else _) = _
    rw [e146, ← nI_succ]
    by_cases z : Vn nS pN ty D (n + 1) f c = Vn nS pN ty D n f c
    · rw [if_pos (by rw [z]), if_pos z, ← or_nI hb (by omega)]; rfl
    · rw [if_neg (fun q => z ((nI_eq (by omega) (by omega)).1 q)), if_neg z, ← or_nI hb (by omega)]; rfl
  rw [jx_loop_out eo]
  refine ⟨_, rfl, _, _, rfl, ?_, ?_, KQ_trans (KQ_trans hk k13) (KQ_i (by decide) (by decide)), fun g hg c' hc' hh => ?_⟩
  · rcases (show b = 0 ∨ b = 1 by omega) with rfl | rfl <;> split <;> decide
  · have step : (b ||| if Vn nS pN ty D (n + 1) f c = Vn nS pN ty D n f c then 0 else 1) = 1 ↔ b = 1 ∨ Vn nS pN ty D (n + 1) f c ≠ Vn nS pN ty D n f c := by
      by_cases z : Vn nS pN ty D (n + 1) f c = Vn nS pN ty D n f c
      · rw [if_pos z]
        rcases (show b = 0 ∨ b = 1 by omega) with rfl | rfl
        · exact ⟨fun q => absurd q (by decide), fun q => by
            rcases q with q | q
            · omega
            · exact absurd z q⟩
        · exact ⟨fun _ => Or.inl rfl, fun _ => by decide⟩
      · rw [if_neg z]
        rcases (show b = 0 ∨ b = 1 by omega) with rfl | rfl
        · exact ⟨fun _ => Or.inr z, fun _ => by decide⟩
        · exact ⟨fun _ => Or.inl rfl, fun _ => by decide⟩
    rw [step, hbi]
    refine ⟨fun q => ?_, fun q => ?_⟩
    · rcases q with (q | ⟨c', q1, q2⟩) | q
      · exact Or.inl q
      · exact Or.inr ⟨c', by omega, q2⟩
      · exact Or.inr ⟨c, by omega, q⟩
    · rcases q with q | ⟨c', q1, q2⟩
      · exact Or.inl (Or.inl q)
      · by_cases y : c' = c
        · subst y; exact Or.inr q2
        · exact Or.inl (Or.inr ⟨c', by omega, q2⟩)
  · have hcg := (hP.2.2.2.2 g hg).2.2.2.2.2.2.2.1
    rw [s_i_eq]
    by_cases w : g = f ∧ c' = c
    · obtain ⟨rfl, rfl⟩ := w
      rw [u_eq rfl]
    · rw [u_ne (by omega), k3.1 147 (by decide) (by decide), k2.1 147 (by decide) (by decide), k1.1 147 (by decide) (by decide)]
      exact h147 g hg c' hc' (by omega)
theorem r_raise {E : jEn} {F : Nat} {nS pN lN' : Nat → Nat} {ty : Nat → Nat → Nat} {W : Nat → Nat} {D : Nat → jDs} {tk : Nat → Nat} {τ ρ : jx_S} (hP : AP E F nS pN lN' ty W D tk τ ρ) {n f b0 : Nat} (hf : f < F) (hb0 : b0 < 2) (hV : RV F pN ty (Vn nS pN ty D n) ρ) (h147 : R147 F nS pN ty D n f 0 ρ) : ∃ b ρ', p_r_round_14 (nI b0) (nI f) 0 ρ = some (.inl (nI b, nI (f + 1), ρ')) ∧ b < 2 ∧ (b = 1 ↔ b0 = 1 ∨ chgF nS pN ty D n f) ∧ KQ [147, 148, 149] 106 [56] ρ ρ' ∧ R147 F nS pN ty D n (f + 1) 0 ρ' := by
  have hF := hP.1
  have hc1000 := (hP.2.2.2.2 f hf).2.2.2.2.2.2.2.1
  unfold p_r_round_14
  obtain ⟨s1, ⟨b, ρ', rfl, hb, hbi, hk, hS'⟩, e⟩ := loop_invx (f := fun s : Int32 × Int32 × Int32 × jx_S => p_r_round_14_s s.1 s.2.1 s.2.2.1 s.2.2.2) (RR F nS pN ty D n f b0 ρ) (cnt (ty f) (pN f)) (fun i s hi h => r_rstep hP hf hi hV h) (s := (nI b0, nI f, (0 : Int32), ρ)) ⟨b0, ρ, rfl, hb0, ⟨fun z => Or.inl z, fun z => by
      rcases z with z | ⟨c', q, _⟩
      · exact z
      · omega⟩, KQ_refl, h147⟩ (X := fun s => some (.inl (s.1, s.2.1 + 1, s.2.2.2))) (fun s hs => by
    obtain ⟨b, ρ', rfl, hb, hbi, hk, hS'⟩ := hs
    have h53 := (AP_r hP (KQ_mono hk (by decide) (by decide))).2.2.2.2 f hf
    show p_r_round_14_s (nI b) (nI f) (nI (cnt (ty f) (pN f))) ρ' = _
    unfold p_r_round_14_s
    rw [if_neg (nI_in (show f < 40 by omega) (by omega)), nI_clamp (show f < 2 ^ 31 by omega), h53.2.2.2.1.2.2.2.2.1, if_pos (nI_le (Nat.le_refl _) (by omega))]) (n := 100000000) (by omega)
  refine ⟨b, ρ', ?_, hb, hbi, hk, fun g hg c hc hh => ?_⟩
  · rw [e, nI_succ]
  · refine hS' g hg c hc ?_
    by_cases z : g = f
    · subst z; exact Or.inr ⟨rfl, hc⟩
    · omega
/-- the copy at a round's end -/
theorem r_copy {ρ : jx_S} {F n b : Nat} (hF : F ≤ 40) (hb : b < 2) (h38 : ρ.1 106 38 = nI F) (h39 : ρ.1 106 39 = nI n) : ∃ ρ', p_r_round_166 (nI b) 0 ρ = some (nI b, ρ') ∧ KQ [146] 106 [39] ρ ρ' ∧ ρ'.1 106 39 = nI (n + 1) ∧ ∀ j, j < 1000 * F → ρ'.1 146 j = ρ.1 147 j := by
  unfold p_r_round_166
  obtain ⟨s1, ⟨ρ', rfl, hk, h⟩, e⟩ := loop_invx (f := fun s : Int32 × Int32 × jx_S => p_r_round_166_s s.1 s.2.1 s.2.2) (fun i s => ∃ ρ', s = (nI b, nI i, ρ') ∧ KQ [146] 106 [] ρ ρ' ∧ ∀ j, j < i → ρ'.1 146 j = ρ.1 147 j) (1000 * F) (fun i s hi h => by
    obtain ⟨ρ', rfl, hk, h⟩ := h
    show ∃ s1, p_r_round_166_s (nI b) (nI i) ρ' = _ ∧ _
    unfold p_r_round_166_s
    rw [hk.2.1 38 (by decide), h38, show (1000 : Int32) * nI F = nI (1000 * F) from nI_mul 1000 F, if_neg (nI_ge hi (by omega)), if_neg (nI_in (show i < 40000 by omega) (by omega)), if_neg (nI_in (show i < 40000 by omega) (by omega)), nI_clamp (show i < 2 ^ 31 by omega)]
    refine ⟨_, rfl, _, by rw [← nI_succ], KQ_trans hk (KQ_i (by decide) (by decide)), fun j hj => ?_⟩
    rw [s_i_eq]
    by_cases z : j = i
    · rw [u_eq z, hk.1 147 (by decide) (by decide), z]
    · rw [u_ne z]; exact h j (by omega)) (s := (nI b, (0 : Int32), ρ)) ⟨ρ, rfl, KQ_refl, fun j hj => by omega⟩ (X := fun s => some (s.1, jx_i s.2.2 106 39 (s.2.2.1 106 39 + 1))) (fun s hs => by
    obtain ⟨ρ', rfl, hk, h⟩ := hs
    show p_r_round_166_s (nI b) (nI (1000 * F)) ρ' = _
    unfold p_r_round_166_s
    have : nI b = 0 ∨ nI b = 1 := by
      rcases (show b = 0 ∨ b = 1 by omega) with rfl | rfl
      · exact Or.inl rfl
      · exact Or.inr rfl
    rw [hk.2.1 38 (by decide), h38, show (1000 : Int32) * nI F = nI (1000 * F) from nI_mul 1000 F, if_pos (nI_le (Nat.le_refl _) (by omega)), if_pos this]) (n := 100000000) (by omega)
  refine ⟨_, e, KQ_trans (KQ_mono hk (by decide) (by decide)) (KQ_f (by decide)), ?_, fun j hj => ?_⟩
  · show (jx_i ρ' 106 39 (ρ'.1 106 39 + 1)).1 106 39 = _
    rw [s_i_eq, u_eq rfl, hk.2.1 39 (by decide), h39, nI_succ]
  · show (jx_i ρ' 106 39 (ρ'.1 106 39 + 1)).1 146 j = _
    rw [s_i_ne (by decide)]; exact h j hj
/-- the reference between rounds -/
def RI (F : Nat) (nS pN : Nat → Nat) (ty : Nat → Nat → Nat) (D : Nat → jDs) (n : Nat) (ρ : jx_S) : Prop := ρ.1 106 39 = nI n ∧ RV F pN ty (Vn nS pN ty D n) ρ
theorem r_round {E : jEn} {F : Nat} {nS pN lN' : Nat → Nat} {ty : Nat → Nat → Nat} {W : Nat → Nat} {D : Nat → jDs} {tk : Nat → Nat} {τ ρ : jx_S} (hP : AP E F nS pN lN' ty W D tk τ ρ) {n : Nat} (hI : RI F nS pN ty D n ρ) : ∃ b ρ', p_r_round ρ = some (nI b, ρ') ∧ b < 2 ∧ (b = 1 ↔ chg F nS pN ty D n) ∧ KQ [146, 147, 148, 149] 106 [56, 39] ρ ρ' ∧ RI F nS pN ty D (n + 1) ρ' := by
  have hF := hP.1
  obtain ⟨i1, i2⟩ := hI
  unfold p_r_round p_r_round_4
  obtain ⟨s1, ⟨b, ρ', rfl, hb, hbi, hk, h147⟩, e⟩ := loop_invx (f := fun s : Int32 × Int32 × jx_S => p_r_round_4_s s.1 s.2.1 s.2.2) (fun f s => ∃ b ρ', s = (nI b, nI f, ρ') ∧ b < 2 ∧ (b = 1 ↔ ∃ g, g < f ∧ chgF nS pN ty D n g) ∧ KQ [147, 148, 149] 106 [56] ρ ρ' ∧ R147 F nS pN ty D n f 0 ρ') F (fun f s hf h => by
    obtain ⟨b, ρ', rfl, hb, hbi, hk, h147⟩ := h
    have hP' : AP E F nS pN lN' ty W D tk τ ρ' := AP_r hP (KQ_mono hk (by decide) (by decide))
    obtain ⟨b2, ρ2, e2, hb2, hbi2, k2, h2⟩ := r_raise hP' hf hb (fun g hg m hm => by rw [hk.1 146 (by decide) (by decide)]; exact i2 g hg m hm) h147
    show ∃ s1, p_r_round_4_s (nI b) (nI f) ρ' = _ ∧ _
    unfold p_r_round_4_s
    rw [hP'.2.2.1, if_neg (nI_ge hf (by omega)), e2]
    refine ⟨_, rfl, b2, ρ2, rfl, hb2, ?_, KQ_trans hk k2, h2⟩
    rw [hbi2, hbi]
    refine ⟨fun z => ?_, fun z => ?_⟩
    · rcases z with ⟨g, q1, q2⟩ | z
      · exact ⟨g, by omega, q2⟩
      · exact ⟨f, by omega, z⟩
    · obtain ⟨g, q1, q2⟩ := z
      by_cases y : g = f
      · subst y; exact Or.inr q2
      · exact Or.inl ⟨g, by omega, q2⟩) (s := ((0 : Int32), (0 : Int32), ρ)) ⟨0, ρ, rfl, by omega, ⟨fun z => by omega, fun z => by obtain ⟨c', q, _⟩ := z; omega⟩, KQ_refl, fun g hg c hc hh => by omega⟩ (X := fun s => p_r_round_166 s.1 0 s.2.2) (fun s hs => by
    obtain ⟨b, ρ', rfl, hb, hbi, hk, h147⟩ := hs
    have hP' : AP E F nS pN lN' ty W D tk τ ρ' := AP_r hP (KQ_mono hk (by decide) (by decide))
    show p_r_round_4_s (nI b) (nI F) ρ' = _
    unfold p_r_round_4_s
    rw [hP'.2.2.1, if_pos (nI_le (Nat.le_refl _) (by omega))]) (n := 100000000) (by omega)
  have hP' : AP E F nS pN lN' ty W D tk τ ρ' := AP_r hP (KQ_mono hk (by decide) (by decide))
  obtain ⟨ρ2, e2, k2, h39, h146⟩ := r_copy hF hb hP'.2.2.1 ((hk.2.1 39 (by decide)).trans i1)
  refine ⟨b, ρ2, e.trans e2, hb, hbi, KQ_trans (KQ_mono hk (by decide) (by decide)) (KQ_mono k2 (by decide) (by decide)), h39, fun g hg m hm => ?_⟩
  have hcg := (hP.2.2.2.2 g hg).2.2.2.2.2.2.2.1
  rw [h146 _ (by omega)]
  exact h147 g hg m hm (Or.inl hg)
