/-! COMPILE, 2: both compile every text alike. -/
def XF (τ ρ : jx_S) : Prop := τ.1 1 0 ≠ 0 ∧ ρ.1 106 4 = τ.1 1 0 ∧ ρ.1 106 5 = τ.1 1 1 ∧ ρ.1 106 3 = 0 ∧ ρ.1 106 38 = 0 ∧ ρ.1 106 39 = 0 ∧ (τ.1 29 0 = 0 ∧ τ.1 23 0 = 0)
theorem RawF_same {E : jEn} {G : jGh} {F : Nat} {nS pN bN : Nat → Nat} {ty : Nat → Nat → Nat} {R : Nat → jRw} {τ ρ τ' ρ' : jx_S} {g : Nat} (h : RawF E G F nS pN bN ty R τ ρ g) (h1 : same crY τ τ') (h2 : same rrY ρ ρ') : RawF E G F nS pN bN ty R τ' ρ' g := by
  unfold RawF RawR RawN NdS NdC wtN at *
  rw [h1 23 (by decide), h1 25 (by decide), h1 27 (by decide), h1 29 (by decide), h1 31 (by decide), h1 33 (by decide), h1 35 (by decide), h1 37 (by decide), h2 112 (by decide), h2 113 (by decide), h2 114 (by decide), h2 115 (by decide), h2 116 (by decide), h2 117 (by decide), h2 118 (by decide), h2 119 (by decide), h2 120 (by decide), h2 121 (by decide), h2 122 (by decide), h2 123 (by decide), h2 124 (by decide)]
  exact h
def UF (E : jEn) (G : jGh) (F : Nat) (nS tS : Nat → Nat) (R : Nat → jRw) (pN bN lN' : Nat → Nat) (ty : Nat → Nat → Nat) (τ ρ : jx_S) (g : Nat) : Prop :=
  RawF E G F nS pN bN ty R τ ρ g ∧ (∀ k, nS g ≤ k → k < nS (g + 1) → okT F pN bN ty g (wtN ρ) (dsc R ρ k) k ∧ wtN ρ k < 14) ∧
  (τ.1 45 g = nI (bN g) ∧ ρ.1 128 g = nI (bN g) ∧ bN g < 2 ∧ τ.1 41 g = nI (tS g) ∧ ρ.1 126 g = nI (tS g) ∧ tS g < eC E ∧ ρ.1 130 g = nI (letc (ρ.1 112) (nS g) (nS (g + 1) - nS g)) ∧ wtN ρ (nS (g + 1) - 1) = bN g) ∧
  (((∀ s, gV G (nS (g + 1) - 1) s → s < pN g) ∧ gB G (nS (g + 1) - 1) = pN g) ∧ ∀ k, nS g ≤ k → k < nS (g + 1) → CsT g (lN' g) τ ρ k ∧ gD G k ≤ lN' g)
def US (E : jEn) (G : jGh) (F : Nat) (nS tS : Nat → Nat) (R : Nat → jRw) (pN bN lN' : Nat → Nat) (ty V : Nat → Nat → Nat) (τ ρ : jx_S) : Prop :=
  EnvOK E ∧ EnvC E τ ∧ EnvR E ρ ∧ EnvV E τ ρ ∧
  AP E F nS pN lN' ty (wtN ρ) (dsc R ρ) (fun k => (R k).2.1) τ ρ ∧ ANA F nS pN ty V (dsc R ρ) τ ρ ∧
  (nS 0 = 0 ∧ ∀ g h, g ≤ h → h ≤ F → nS g ≤ nS h) ∧ (∀ g, g < F → UF E G F nS tS R pN bN lN' ty τ ρ g) ∧
  τ.1 3 9 = nI (nS F) ∧ τ.1 1 0 = 0 ∧ ρ.1 106 4 = 0 ∧ ρ.1 106 3 = 1 ∧ (τ.1 29 0 = 0 ∧ τ.1 23 0 = 0)
def UU (T : Nat → Nat) (z : Nat) (τ ρ : jx_S) : Prop := ∃ E G F nS tS R pN bN lN' ty V, US E G F nS tS R pN bN lN' ty V τ ρ ∧ eT E = T ∧ eZ E = z
/-- the class, once a fault is told -/
theorem c_told {τ : jx_S} (h : τ.1 1 0 ≠ 0) : ∃ τ', p_cRea_readProgram τ = some τ' ∧ τ'.1 1 = τ.1 1 ∧ τ'.1 29 = τ.1 29 ∧ τ'.1 23 = τ.1 23 := by
  have h' : (jx_i (jx_i (jx_i τ 5 6 0) 3 9 0) 4 10 0).1 1 0 ≠ 0 := by
    rw [s_i_ne (by decide), s_i_ne (by decide), s_i_ne (by decide)]; exact h
  refine ⟨jx_i (jx_i (jx_i τ 5 6 0) 3 9 0) 4 10 0, ?_, ?_, ?_, ?_⟩
  · unfold p_cRea_readProgram p_cRea_readProgram_23
    refine jx_loop_out (X := some _) ?_ 99999999
    show p_cRea_readProgram_23_s 0 (jx_i (jx_i (jx_i τ 5 6 0) 3 9 0) 4 10 0) = _
    unfold p_cRea_readProgram_23_s
    rw [if_neg (by decide), if_pos (told_kind h')]
  · rw [s_i_ne (by decide), s_i_ne (by decide), s_i_ne (by decide)]
  · rw [s_i_ne (by decide), s_i_ne (by decide), s_i_ne (by decide)]
  · rw [s_i_ne (by decide), s_i_ne (by decide), s_i_ne (by decide)]
theorem c_check_told {τ : jx_S} (h : τ.1 1 0 ≠ 0) : p_cTyp_check τ = some τ := by
  unfold p_cTyp_check; rw [told_v h]; rfl
theorem c_ana_told {τ : jx_S} (h : τ.1 1 0 ≠ 0) : p_cAna_analyse τ = some τ := by
  unfold p_cAna_analyse; rw [told_v h]; rfl
theorem c_63_told {τ : jx_S} (h : τ.1 1 0 ≠ 0) : p_cl_compile_63 τ = some (-(τ.1 1 0), τ) := by
  unfold p_cl_compile_63; rw [told_v h]; rfl
theorem r_65 (ρ : jx_S) : p_r_compile_65 ρ = some (-(ρ.1 106 4), jx_i (jx_i ρ 106 3 0) 106 38 0) := by
  unfold p_r_compile_65 p_r_compile_66
  rw [if_pos (Or.inl rfl), if_neg (fun q => q rfl)]
theorem XF_end {τ ρ : jx_S} (h1 : τ.1 1 0 ≠ 0) (h2 : ρ.1 106 4 = τ.1 1 0) (h3 : ρ.1 106 5 = τ.1 1 1) (h4 : ρ.1 106 39 = 0) (h5 : τ.1 29 0 = 0 ∧ τ.1 23 0 = 0) : XF τ (jx_i (jx_i ρ 106 3 0) 106 38 0) := by
  refine ⟨h1, ?_, ?_, ?_, ?_, ?_, h5⟩
  · simp (disch := first | assumption | decide | omega) only [h2, nI_lit, cT_lt, cF_lt, cT_le, cF_le, cT_eq, cF_eq, nF_le, mF_eq, mG_eq, mT_lt, eq_self, nI_clamp, nI_add, Nat.add_zero, nI_sub, s_i_ne, s_i_eq, s_i_2, s_l_1, s_l_ne, s_l_eq, s_p_ne, s_p_eq, s_p_2, s_q_1, s_q_ne, s_q_eq, u_ne, u_eq, v_ne, v_eq, w_ne, w_eq, jI_at_in, jL_at_in, false_or, or_false, true_or, or_true, true_and, and_true, false_and, and_false, not_true_eq_false, not_false_eq_true, ↓reduceIte, Option.bind_some, Option.map_some]
  · simp (disch := first | assumption | decide | omega) only [h3, nI_lit, cT_lt, cF_lt, cT_le, cF_le, cT_eq, cF_eq, nF_le, mF_eq, mG_eq, mT_lt, eq_self, nI_clamp, nI_add, Nat.add_zero, nI_sub, s_i_ne, s_i_eq, s_i_2, s_l_1, s_l_ne, s_l_eq, s_p_ne, s_p_eq, s_p_2, s_q_1, s_q_ne, s_q_eq, u_ne, u_eq, v_ne, v_eq, w_ne, w_eq, jI_at_in, jL_at_in, false_or, or_false, true_or, or_true, true_and, and_true, false_and, and_false, not_true_eq_false, not_false_eq_true, ↓reduceIte, Option.bind_some, Option.map_some]
  · simp (disch := first | assumption | decide | omega) only [nI_lit, cT_lt, cF_lt, cT_le, cF_le, cT_eq, cF_eq, nF_le, mF_eq, mG_eq, mT_lt, eq_self, nI_clamp, nI_add, Nat.add_zero, nI_sub, s_i_ne, s_i_eq, s_i_2, s_l_1, s_l_ne, s_l_eq, s_p_ne, s_p_eq, s_p_2, s_q_1, s_q_ne, s_q_eq, u_ne, u_eq, v_ne, v_eq, w_ne, w_eq, jI_at_in, jL_at_in, false_or, or_false, true_or, or_true, true_and, and_true, false_and, and_false, not_true_eq_false, not_false_eq_true, ↓reduceIte, Option.bind_some, Option.map_some]
  · simp (disch := first | assumption | decide | omega) only [nI_lit, cT_lt, cF_lt, cT_le, cF_le, cT_eq, cF_eq, nF_le, mF_eq, mG_eq, mT_lt, eq_self, nI_clamp, nI_add, Nat.add_zero, nI_sub, s_i_ne, s_i_eq, s_i_2, s_l_1, s_l_ne, s_l_eq, s_p_ne, s_p_eq, s_p_2, s_q_1, s_q_ne, s_q_eq, u_ne, u_eq, v_ne, v_eq, w_ne, w_eq, jI_at_in, jL_at_in, false_or, or_false, true_or, or_true, true_and, and_true, false_and, and_false, not_true_eq_false, not_false_eq_true, ↓reduceIte, Option.bind_some, Option.map_some]
  · simp (disch := first | assumption | decide | omega) only [h4, nI_lit, cT_lt, cF_lt, cT_le, cF_le, cT_eq, cF_eq, nF_le, mF_eq, mG_eq, mT_lt, eq_self, nI_clamp, nI_add, Nat.add_zero, nI_sub, s_i_ne, s_i_eq, s_i_2, s_l_1, s_l_ne, s_l_eq, s_p_ne, s_p_eq, s_p_2, s_q_1, s_q_ne, s_q_eq, u_ne, u_eq, v_ne, v_eq, w_ne, w_eq, jI_at_in, jL_at_in, false_or, or_false, true_or, or_true, true_and, and_true, false_and, and_false, not_true_eq_false, not_false_eq_true, ↓reduceIte, Option.bind_some, Option.map_some]
theorem us_fun {E : jEn} {G : jGh} {F K : Nat} {nS tS : Nat → Nat} {R : Nat → jRw} {τ2 ρ2 τ3 ρ4 τ5 ρ5 : jx_S} (hT : TreeOK E G F K nS tS τ2 ρ2) (hTA : TyAll E G F nS (parN ρ2) (baseN ρ2) (locN ρ2) tS (tyN ρ2) τ3 ρ4) (hRaw : ∀ g, g < F → RawF E G F nS (parN ρ2) (baseN ρ2) (tyN ρ2) R τ3 ρ4 g) (hokT : ∀ g, g < F → ∀ k, nS g ≤ k → k < nS (g + 1) → okT F (parN ρ2) (baseN ρ2) (tyN ρ2) g (wtN ρ4) (dsc R ρ4 k) k ∧ wtN ρ4 k < 14) (ka : same crY τ3 τ5) (kr : same rrY ρ4 ρ5) (eD : dsc R ρ5 = dsc R ρ4) (eW : wtN ρ5 = wtN ρ4) (ec : same [41, 45, 57] τ2 τ5) (er : same [112, 117, 126, 128, 130] ρ2 ρ5) {g : Nat} (hg : g < F) : UF E G F nS tS R (parN ρ2) (baseN ρ2) (locN ρ2) (tyN ρ2) τ5 ρ5 g := by
  obtain ⟨a1, a2, a3, p, b, l, hB, c1, c2, c3, c4, c5, c6, c7, c8⟩ := hT.2.2.2.2.2 g hg
  obtain ⟨d1, d2, d3, d4, d5, d6, d7, d8, d9, d10, d11, d12, d13, d14⟩ := FD_of hT g hg
  have hp : parN ρ2 g = p := by unfold parN; rw [hB.1.2.1]; exact nI_clamp (by have := hB.2.1; omega)
  refine ⟨RawF_same (hRaw g hg) ka kr, ?_, ⟨?_, ?_, d6, ?_, ?_, d13, ?_, ?_⟩, ?_, fun k q1 q2 => ?_⟩
  · rw [eD, eW]; exact hokT g hg
  · rw [ec 45 (by decide)]; exact d4
  · rw [er 128 (by decide)]; exact d5
  · rw [ec 41 (by decide)]; exact d11
  · rw [er 126 (by decide)]; exact d12
  · rw [er 130 (by decide), er 112 (by decide), c7, show nS (g + 1) - 1 + 1 - nS g = nS (g + 1) - nS g by omega]
  · rw [eW]
    have h37 := (hTA.2 g hg).2.1
    obtain ⟨⟨_, _, q3, q4, _⟩, _⟩ := (hRaw g hg).1 (nS (g + 1) - 1) (by omega) (by omega)
    rw [show nS (g + 1) - 1 + 1 = nS (g + 1) by omega, h37] at q4
    exact ((nI_eq (by omega) (by omega)).1 q4).symm
  · rw [hp]
    exact ⟨fun s hs => hB.2.2.2.2.2.2.2.2.2.2.2.2.2.2.2.2.2.2.2.1 s hs, hB.2.2.2.2.2.2.2.2.2.2.2.2.2.2.2.2.2.2.2.2.1⟩
  · have hl : locN ρ2 g = l := by unfold locN; rw [hB.2.2.2.2.2.2.2.2.1]; exact nI_clamp (by have := hB.2.2.2.1; omega)
    exact ⟨CsT_keep (hB.2.2.2.2.2.2.2.2.2.2.2.2.2.2.1 k q1 (by omega)).2.2 (fun j _ => by rw [ec 57 (by decide)]) (by rw [er 112 (by decide)]) (by rw [er 117 (by decide)]) (by omega), by rw [hl]; exact (hB.2.2.2.2.2.2.2.2.2.2.2.2.2.2.1 k q1 (by omega)).2.1⟩
theorem us_of {E : jEn} (hE : EnvOK E) {G : jGh} {F K : Nat} {nS tS : Nat → Nat} {τ2 ρ2 τ3 ρ4 : jx_S} (hG : PG E F (eC E) K τ2 ρ2) (hT : TreeOK E G F K nS tS τ2 ρ2) (hV : EnvV E τ2 ρ2) (hTA : TyAll E G F nS (parN ρ2) (baseN ρ2) (locN ρ2) tS (tyN ρ2) τ3 ρ4) (k1 : ∀ r, r ∉ [33, 37, 53] → τ3.1 r = τ2.1 r) (k1' : τ3.2 = τ2.2) (k2 : ∀ r, r ∉ [106, 123, 124, 133, 144, 145] → ρ4.1 r = ρ2.1 r) (k3 : ∀ j, j ≠ 55 → j ≠ 56 → ρ4.1 106 j = ρ2.1 106 j) : ∃ R V τ5 ρ5, p_cAna_analyse τ3 = some τ5 ∧ p_r_analyse (jx_i ρ4 106 3 1) = some ρ5 ∧ τ5.1 4 10 = nI F ∧ ρ5.1 106 38 = nI F ∧ US E G F nS tS R (parN ρ2) (baseN ρ2) (locN ρ2) (tyN ρ2) V τ5 ρ5 := by
  have hm := nS_mono hT
  obtain ⟨gE, gC, gR, ⟨g1, g2, g3, g4, g5⟩, ⟨gr1, gr2, gr3, gr4, gr5⟩, _⟩ := id hG
  obtain ⟨R, hRaw, hAP, hokT⟩ := ap_of hE hG hT hTA k1 k2 k3
  have hAP' : AP E F nS (parN ρ2) (locN ρ2) (tyN ρ2) (wtN ρ4) (dsc R ρ4) (fun k => (R k).2.1) τ3 (jx_i ρ4 106 3 1) := AP_keep hAP (fun _ _ => rfl) (fun r hr => s_i_ne (fun q => by subst q; revert hr; decide)) (by simp (disch := first | assumption | decide | omega) only [nI_lit, cT_lt, cF_lt, cT_le, cF_le, cT_eq, cF_eq, nF_le, mF_eq, mG_eq, mT_lt, eq_self, nI_clamp, nI_add, Nat.add_zero, nI_sub, s_i_ne, s_i_eq, s_i_2, s_l_1, s_l_ne, s_l_eq, s_p_ne, s_p_eq, s_p_2, s_q_1, s_q_ne, s_q_eq, u_ne, u_eq, v_ne, v_eq, w_ne, w_eq, jI_at_in, jL_at_in, false_or, or_false, true_or, or_true, true_and, and_true, false_and, and_false, not_true_eq_false, not_false_eq_true, ↓reduceIte, Option.bind_some, Option.map_some]) (by simp (disch := first | assumption | decide | omega) only [nI_lit, cT_lt, cF_lt, cT_le, cF_le, cT_eq, cF_eq, nF_le, mF_eq, mG_eq, mT_lt, eq_self, nI_clamp, nI_add, Nat.add_zero, nI_sub, s_i_ne, s_i_eq, s_i_2, s_l_1, s_l_ne, s_l_eq, s_p_ne, s_p_eq, s_p_2, s_q_1, s_q_ne, s_q_eq, u_ne, u_eq, v_ne, v_eq, w_ne, w_eq, jI_at_in, jL_at_in, false_or, or_false, true_or, or_true, true_and, and_true, false_and, and_false, not_true_eq_false, not_false_eq_true, ↓reduceIte, Option.bind_some, Option.map_some])
  have h59 : ∀ g, g < F → ∀ i, i < parN ρ2 g → τ3.1 59 (30 * g + i) = 0 := fun g hg i hi => by
    obtain ⟨a1, a2, a3, p, b, l, hB, _⟩ := hT.2.2.2.2.2 g hg
    obtain ⟨_, _, _, _, _, _, d7, _⟩ := FD_of hT g hg
    have hl : locN ρ2 g = l := by unfold locN; rw [hB.2.2.2.2.2.2.2.2.1]; exact nI_clamp (by have := hB.2.2.2.1; omega)
    obtain ⟨_, _, _, _, q⟩ := hB.2.2.2.2.2.2.2.2.2.2.2.2.2.1 i (by omega)
    rw [k1 59 (by decide)]; exact q
  have h10' : τ3.1 1 0 = 0 := by rw [k1 1 (by decide)]; exact g1
  obtain ⟨V, τ5, ρ5, e10, e11, ka, kr, hANA⟩ := analyse_all hAP' hm h59 h10'
  have eD : dsc R ρ5 = dsc R ρ4 := by
    funext k
    unfold dsc
    rw [kr.1 117 (by decide) (by decide), kr.1 122 (by decide) (by decide), kr.1 123 (by decide) (by decide), s_i_ne (by decide), s_i_ne (by decide), s_i_ne (by decide)]
  have eW : wtN ρ5 = wtN ρ4 := by
    funext k
    unfold wtN
    rw [kr.1 124 (by decide) (by decide), s_i_ne (by decide)]
  have ec : ∀ r, r ∉ aCL → r ≠ 7 → r ∉ [33, 37, 53] → τ5.1 r = τ2.1 r := fun r a b c => (ka.1 r a b).trans (k1 r c)
  have er : ∀ r, r ∉ aRL → r ∉ [106, 123, 124, 133, 144, 145] → ρ5.1 r = ρ2.1 r := fun r a b => by
    have hr : r ≠ 106 := fun q => by subst q; exact b (by decide)
    rw [kr.1 r a hr, s_i_ne hr]; exact k2 r b
  have e106 : ∀ j, j ∉ [56, 39] → j ≠ 3 → j ≠ 55 → ρ5.1 106 j = ρ2.1 106 j := fun j a b c => by
    rw [kr.2.1 j a, s_i_eq, u_ne b]; exact k3 j c (fun q => by subst q; exact a (by decide))
  have sY : same rrY ρ4 ρ5 := fun r hr => by
    have h6 : r ∉ aRL ∧ r ≠ 106 := by revert hr; revert r; decide
    rw [kr.1 r h6.1 h6.2, s_i_ne h6.2]
  have sC : same [41, 45, 57] τ2 τ5 := fun r hr => by
    have h6 : r ∉ aCL ∧ r ≠ 7 ∧ r ∉ [33, 37, 53] := by revert hr; revert r; decide
    exact ec r h6.1 h6.2.1 h6.2.2
  have sR : same [112, 117, 126, 128, 130] ρ2 ρ5 := fun r hr => by
    have h6 : r ∉ aRL ∧ r ∉ [106, 123, 124, 133, 144, 145] := by revert hr; revert r; decide
    exact er r h6.1 h6.2
  refine ⟨R, V, τ5, ρ5, e10, e11, ?_, ?_, hE, ?_, ?_, ?_, ?_, ?_, ⟨hT.2.2.1, hm⟩, fun g hg => us_fun hT hTA hRaw hokT (KQ_same ka (by decide)) sY eD eW sC sR hg, ?_, ?_, ?_, ?_, ?_⟩
  · rw [ka.1 4 (by decide) (by decide), k1 4 (by decide)]; exact g4
  · rw [e106 38 (by decide) (by decide) (by decide)]; exact gr5
  · exact EnvC_keep gC (ec 15 (by decide) (by decide) (by decide)) (ec 17 (by decide) (by decide) (by decide)) (by rw [ka.2.2, k1'])
  · exact EnvR_keep gR (er 107 (by decide) (by decide)) (er 108 (by decide) (by decide)) (er 109 (by decide) (by decide)) (er 110 (by decide) (by decide)) (e106 5 (by decide) (by decide) (by decide))
  · intro k q1 q2
    rw [ka.2.2, k1', er 111 (by decide) (by decide)]
    exact hV k q1 q2
  · rw [eD, eW]; exact AP_r (AP_c hAP' ka) kr
  · rw [eD]; exact hANA
  · rw [ec 3 (by decide) (by decide) (by decide), g3, hT.2.2.2.1]
  · rw [ka.1 1 (by decide) (by decide)]; exact h10'
  · rw [e106 4 (by decide) (by decide) (by decide)]; exact gr1
  · rw [kr.2.1 3 (by decide), s_i_eq, u_eq rfl]
  · rw [ec 29 (by decide) (by decide) (by decide), ec 23 (by decide) (by decide) (by decide)]; exact g5
theorem compile_all (T : Nat → Nat) (z : Nat) (hz : z ≤ 4000) (τ ρ : jx_S) (h1 : tx (τ.1 11) T z) (h2 : tx (ρ.1 107) T z) (h10 : τ.1 0 10 = nI z) (h12 : τ.1 0 12 = 0) (h3 : ρ.1 106 1 = nI z) (hw : ∀ k, 3 ≤ k → k < 16 → τ.2 21 k = lN (wd k)) (hz0 : τ.1 29 0 = 0 ∧ τ.1 23 0 = 0) :
    ∃ v τ' ρ', p_cl_compile τ = some (v, τ') ∧ p_r_compile ρ = some (v, ρ') ∧ (XF τ' ρ' ∨ UU T z τ' ρ') := by
  unfold p_cl_compile p_r_compile
  rw [if_neg (show ¬ ¬ τ.1 0 12 = 0 from fun q => q h12), show p_cFau_clear (jx_i τ 0 12 1) = some (jx_i (jx_i (jx_i τ 0 12 1) 1 0 0) 1 1 0) from rfl, Option.bind_some]
  have t11 : (jx_i (jx_i (jx_i τ 0 12 1) 1 0 0) 1 1 0).1 11 = τ.1 11 := by simp (disch := first | assumption | decide | omega) only [nI_lit, cT_lt, cF_lt, cT_le, cF_le, cT_eq, cF_eq, nF_le, mF_eq, mG_eq, mT_lt, eq_self, nI_clamp, nI_add, Nat.add_zero, nI_sub, s_i_ne, s_i_eq, s_i_2, s_l_1, s_l_ne, s_l_eq, s_p_ne, s_p_eq, s_p_2, s_q_1, s_q_ne, s_q_eq, u_ne, u_eq, v_ne, v_eq, w_ne, w_eq, jI_at_in, jL_at_in, false_or, or_false, true_or, or_true, true_and, and_true, false_and, and_false, not_true_eq_false, not_false_eq_true, ↓reduceIte, Option.bind_some, Option.map_some]
  have t10 : (jx_i (jx_i (jx_i τ 0 12 1) 1 0 0) 1 1 0).1 0 10 = nI z := by simp (disch := first | assumption | decide | omega) only [h10, nI_lit, cT_lt, cF_lt, cT_le, cF_le, cT_eq, cF_eq, nF_le, mF_eq, mG_eq, mT_lt, eq_self, nI_clamp, nI_add, Nat.add_zero, nI_sub, s_i_ne, s_i_eq, s_i_2, s_l_1, s_l_ne, s_l_eq, s_p_ne, s_p_eq, s_p_2, s_q_1, s_q_ne, s_q_eq, u_ne, u_eq, v_ne, v_eq, w_ne, w_eq, jI_at_in, jL_at_in, false_or, or_false, true_or, or_true, true_and, and_true, false_and, and_false, not_true_eq_false, not_false_eq_true, ↓reduceIte, Option.bind_some, Option.map_some]
  have t1 : (jx_i (jx_i (jx_i τ 0 12 1) 1 0 0) 1 1 0).1 1 0 = 0 := by simp (disch := first | assumption | decide | omega) only [nI_lit, cT_lt, cF_lt, cT_le, cF_le, cT_eq, cF_eq, nF_le, mF_eq, mG_eq, mT_lt, eq_self, nI_clamp, nI_add, Nat.add_zero, nI_sub, s_i_ne, s_i_eq, s_i_2, s_l_1, s_l_ne, s_l_eq, s_p_ne, s_p_eq, s_p_2, s_q_1, s_q_ne, s_q_eq, u_ne, u_eq, v_ne, v_eq, w_ne, w_eq, jI_at_in, jL_at_in, false_or, or_false, true_or, or_true, true_and, and_true, false_and, and_false, not_true_eq_false, not_false_eq_true, ↓reduceIte, Option.bind_some, Option.map_some]
  have t29 : (jx_i (jx_i (jx_i τ 0 12 1) 1 0 0) 1 1 0).1 29 = τ.1 29 := by simp (disch := first | assumption | decide | omega) only [nI_lit, cT_lt, cF_lt, cT_le, cF_le, cT_eq, cF_eq, nF_le, mF_eq, mG_eq, mT_lt, eq_self, nI_clamp, nI_add, Nat.add_zero, nI_sub, s_i_ne, s_i_eq, s_i_2, s_l_1, s_l_ne, s_l_eq, s_p_ne, s_p_eq, s_p_2, s_q_1, s_q_ne, s_q_eq, u_ne, u_eq, v_ne, v_eq, w_ne, w_eq, jI_at_in, jL_at_in, false_or, or_false, true_or, or_true, true_and, and_true, false_and, and_false, not_true_eq_false, not_false_eq_true, ↓reduceIte, Option.bind_some, Option.map_some]
  have t23 : (jx_i (jx_i (jx_i τ 0 12 1) 1 0 0) 1 1 0).1 23 = τ.1 23 := by simp (disch := first | assumption | decide | omega) only [nI_lit, cT_lt, cF_lt, cT_le, cF_le, cT_eq, cF_eq, nF_le, mF_eq, mG_eq, mT_lt, eq_self, nI_clamp, nI_add, Nat.add_zero, nI_sub, s_i_ne, s_i_eq, s_i_2, s_l_1, s_l_ne, s_l_eq, s_p_ne, s_p_eq, s_p_2, s_q_1, s_q_ne, s_q_eq, u_ne, u_eq, v_ne, v_eq, w_ne, w_eq, jI_at_in, jL_at_in, false_or, or_false, true_or, or_true, true_and, and_true, false_and, and_false, not_true_eq_false, not_false_eq_true, ↓reduceIte, Option.bind_some, Option.map_some]
  have t21 : (jx_i (jx_i (jx_i τ 0 12 1) 1 0 0) 1 1 0).2 = τ.2 := rfl
  have r107 : (jx_i (jx_i (jx_i (jx_i (jx_i ρ 106 2 0) 106 4 0) 106 5 (-1)) 106 38 0) 106 39 0).1 107 = ρ.1 107 := by simp (disch := first | assumption | decide | omega) only [nI_lit, cT_lt, cF_lt, cT_le, cF_le, cT_eq, cF_eq, nF_le, mF_eq, mG_eq, mT_lt, eq_self, nI_clamp, nI_add, Nat.add_zero, nI_sub, s_i_ne, s_i_eq, s_i_2, s_l_1, s_l_ne, s_l_eq, s_p_ne, s_p_eq, s_p_2, s_q_1, s_q_ne, s_q_eq, u_ne, u_eq, v_ne, v_eq, w_ne, w_eq, jI_at_in, jL_at_in, false_or, or_false, true_or, or_true, true_and, and_true, false_and, and_false, not_true_eq_false, not_false_eq_true, ↓reduceIte, Option.bind_some, Option.map_some]
  have r1 : (jx_i (jx_i (jx_i (jx_i (jx_i ρ 106 2 0) 106 4 0) 106 5 (-1)) 106 38 0) 106 39 0).1 106 1 = nI z := by simp (disch := first | assumption | decide | omega) only [h3, nI_lit, cT_lt, cF_lt, cT_le, cF_le, cT_eq, cF_eq, nF_le, mF_eq, mG_eq, mT_lt, eq_self, nI_clamp, nI_add, Nat.add_zero, nI_sub, s_i_ne, s_i_eq, s_i_2, s_l_1, s_l_ne, s_l_eq, s_p_ne, s_p_eq, s_p_2, s_q_1, s_q_ne, s_q_eq, u_ne, u_eq, v_ne, v_eq, w_ne, w_eq, jI_at_in, jL_at_in, false_or, or_false, true_or, or_true, true_and, and_true, false_and, and_false, not_true_eq_false, not_false_eq_true, ↓reduceIte, Option.bind_some, Option.map_some]
  have r4 : (jx_i (jx_i (jx_i (jx_i (jx_i ρ 106 2 0) 106 4 0) 106 5 (-1)) 106 38 0) 106 39 0).1 106 4 = 0 := by simp (disch := first | assumption | decide | omega) only [nI_lit, cT_lt, cF_lt, cT_le, cF_le, cT_eq, cF_eq, nF_le, mF_eq, mG_eq, mT_lt, eq_self, nI_clamp, nI_add, Nat.add_zero, nI_sub, s_i_ne, s_i_eq, s_i_2, s_l_1, s_l_ne, s_l_eq, s_p_ne, s_p_eq, s_p_2, s_q_1, s_q_ne, s_q_eq, u_ne, u_eq, v_ne, v_eq, w_ne, w_eq, jI_at_in, jL_at_in, false_or, or_false, true_or, or_true, true_and, and_true, false_and, and_false, not_true_eq_false, not_false_eq_true, ↓reduceIte, Option.bind_some, Option.map_some]
  have r5 : (jx_i (jx_i (jx_i (jx_i (jx_i ρ 106 2 0) 106 4 0) 106 5 (-1)) 106 38 0) 106 39 0).1 106 5 = -1 := by simp (disch := first | assumption | decide | omega) only [nI_lit, cT_lt, cF_lt, cT_le, cF_le, cT_eq, cF_eq, nF_le, mF_eq, mG_eq, mT_lt, eq_self, nI_clamp, nI_add, Nat.add_zero, nI_sub, s_i_ne, s_i_eq, s_i_2, s_l_1, s_l_ne, s_l_eq, s_p_ne, s_p_eq, s_p_2, s_q_1, s_q_ne, s_q_eq, u_ne, u_eq, v_ne, v_eq, w_ne, w_eq, jI_at_in, jL_at_in, false_or, or_false, true_or, or_true, true_and, and_true, false_and, and_false, not_true_eq_false, not_false_eq_true, ↓reduceIte, Option.bind_some, Option.map_some]
  have r39 : (jx_i (jx_i (jx_i (jx_i (jx_i ρ 106 2 0) 106 4 0) 106 5 (-1)) 106 38 0) 106 39 0).1 106 39 = 0 := by simp (disch := first | assumption | decide | omega) only [nI_lit, cT_lt, cF_lt, cT_le, cF_le, cT_eq, cF_eq, nF_le, mF_eq, mG_eq, mT_lt, eq_self, nI_clamp, nI_add, Nat.add_zero, nI_sub, s_i_ne, s_i_eq, s_i_2, s_l_1, s_l_ne, s_l_eq, s_p_ne, s_p_eq, s_p_2, s_q_1, s_q_ne, s_q_eq, u_ne, u_eq, v_ne, v_eq, w_ne, w_eq, jI_at_in, jL_at_in, false_or, or_false, true_or, or_true, true_and, and_true, false_and, and_false, not_true_eq_false, not_false_eq_true, ↓reduceIte, Option.bind_some, Option.map_some]
  generalize jx_i (jx_i (jx_i τ 0 12 1) 1 0 0) 1 1 0 = τ0 at *
  generalize jx_i (jx_i (jx_i (jx_i (jx_i ρ 106 2 0) 106 4 0) 106 5 (-1)) 106 38 0) 106 39 0 = ρ0 at *
  rw [t10]
  obtain ⟨τ1, b1, ρ1, e1, e2, hO⟩ := tok_all T z hz τ0 ρ0 (by rw [t11]; exact h1) (by rw [r107]; exact h2) r1 (fun k a b => by rw [t21]; exact hw k a b) t1 r4
  have f1 := f_cTok_split τ0 (nI z) τ0 jFr.rfl τ1 e1
  have f2 := f_r_scan ρ0 ρ0 jFr.rfl (b1, ρ1) e2
  rw [e1, e2, Option.bind_some, Option.bind_some]
  have z1 : τ1.1 29 0 = 0 ∧ τ1.1 23 0 = 0 := by
    rw [(f1 29 0 (by decide) (by decide)).1, (f1 23 0 (by decide) (by decide)).1, t29, t23]; exact hz0
  have q39 : ρ1.1 106 39 = 0 := ((f2 106 39 (by decide) (by decide)).1).trans r39
  have q107 : ρ1.1 107 = ρ.1 107 := by rw [← r107]; funext j; exact (f2 107 j (by decide) (by simp [fs_r_scan])).1
  rcases hO with ⟨rfl, o1, o2, o3, c, hR, hEnd⟩ | ⟨rfl, o1, o2, o3⟩
  · obtain ⟨E, hE, hC, hRr, hV, _, hET, hEZ⟩ := env_of hz (by rw [q107]; exact h2) (o3.trans r5) hR hEnd
    obtain ⟨τ2, b2, ρ2, e3, e4, hO2⟩ := read_all hE hC hRr o1 o2 z1
    have f3 := f_cRea_readProgram τ1 τ1 jFr.rfl τ2 e3
    have f4 := f_r_readAll ρ1 ρ1 jFr.rfl (b2, ρ2) e4
    dsimp only
    rw [if_neg (by decide), e3, e4, Option.bind_some, Option.bind_some]
    have w39 : ρ2.1 106 39 = 0 := ((f4 106 39 (by decide) (by decide)).1).trans q39
    rcases hO2 with ⟨rfl, hX⟩ | ⟨rfl, F, K, G, nS, tS, hG, hT⟩
    · dsimp only
      rw [c_check_told hX.1, Option.bind_some, c_ana_told hX.1, Option.bind_some, c_63_told hX.1, if_pos rfl, r_65]
      refine ⟨_, _, _, rfl, ?_, Or.inl (XF_end hX.1 hX.2.2.1 hX.2.2.2.1 w39 hX.2.2.2.2)⟩
      rw [hX.2.2.1]
    · obtain ⟨gE, gC, gR, ⟨g1, g2, g3, g4, g5⟩, ⟨gr1, gr2, gr3, gr4, gr5⟩, _⟩ := id hG
      have hE1 := hE.1
      obtain ⟨o, e5, e6⟩ := names_all hE gC gR g1 gr1 (ND_of hE1 hT) hT.1 g4 gr5
      dsimp only
      rw [if_neg (by decide), e5, e6]
      have hm := nS_mono hT
      have hPt : TyP0 E F (parN ρ2) (baseN ρ2) (locN ρ2) tS (tyN ρ2) τ2 ρ2 := ⟨gC, gR, FD_of hT, g4, gr5, g1, gr1, g5.1⟩
      cases o with
      | some P =>
        have hS : (ctell τ2 5 (nI P)).1 1 0 ≠ 0 := by unfold ctell; simp (disch := first | assumption | decide | omega) only [nI_lit, cT_lt, cF_lt, cT_le, cF_le, cT_eq, cF_eq, nF_le, mF_eq, mG_eq, mT_lt, eq_self, nI_clamp, nI_add, Nat.add_zero, nI_sub, s_i_ne, s_i_eq, s_i_2, s_l_1, s_l_ne, s_l_eq, s_p_ne, s_p_eq, s_p_2, s_q_1, s_q_ne, s_q_eq, u_ne, u_eq, v_ne, v_eq, w_ne, w_eq, jI_at_in, jL_at_in, false_or, or_false, true_or, or_true, true_and, and_true, false_and, and_false, not_true_eq_false, not_false_eq_true, ↓reduceIte, Option.bind_some, Option.map_some]; decide
        obtain ⟨τ3, e7, hTT⟩ := told_37 (F := F) (pN := parN ρ2) (ty := tyN ρ2) hT.1 F 0 100000000 (ctell τ2 5 (nI P)) (by omega) (by omega) (by have := hT.1; omega) hS (by unfold ctell; simp (disch := first | assumption | decide | omega) only [g4, nI_lit, cT_lt, cF_lt, cT_le, cF_le, cT_eq, cF_eq, nF_le, mF_eq, mG_eq, mT_lt, eq_self, nI_clamp, nI_add, Nat.add_zero, nI_sub, s_i_ne, s_i_eq, s_i_2, s_l_1, s_l_ne, s_l_eq, s_p_ne, s_p_eq, s_p_2, s_q_1, s_q_ne, s_q_eq, u_ne, u_eq, v_ne, v_eq, w_ne, w_eq, jI_at_in, jL_at_in, false_or, or_false, true_or, or_true, true_and, and_true, false_and, and_false, not_true_eq_false, not_false_eq_true, ↓reduceIte, Option.bind_some, Option.map_some]) (PT_keep (PT_of (FD_of hT)) (by unfold ctell; simp (disch := first | assumption | decide | omega) only [nI_lit, cT_lt, cF_lt, cT_le, cF_le, cT_eq, cF_eq, nF_le, mF_eq, mG_eq, mT_lt, eq_self, nI_clamp, nI_add, Nat.add_zero, nI_sub, s_i_ne, s_i_eq, s_i_2, s_l_1, s_l_ne, s_l_eq, s_p_ne, s_p_eq, s_p_2, s_q_1, s_q_ne, s_q_eq, u_ne, u_eq, v_ne, v_eq, w_ne, w_eq, jI_at_in, jL_at_in, false_or, or_false, true_or, or_true, true_and, and_true, false_and, and_false, not_true_eq_false, not_false_eq_true, ↓reduceIte, Option.bind_some, Option.map_some]) (by unfold ctell; simp (disch := first | assumption | decide | omega) only [nI_lit, cT_lt, cF_lt, cT_le, cF_le, cT_eq, cF_eq, nF_le, mF_eq, mG_eq, mT_lt, eq_self, nI_clamp, nI_add, Nat.add_zero, nI_sub, s_i_ne, s_i_eq, s_i_2, s_l_1, s_l_ne, s_l_eq, s_p_ne, s_p_eq, s_p_2, s_q_1, s_q_ne, s_q_eq, u_ne, u_eq, v_ne, v_eq, w_ne, w_eq, jI_at_in, jL_at_in, false_or, or_false, true_or, or_true, true_and, and_true, false_and, and_false, not_true_eq_false, not_false_eq_true, ↓reduceIte, Option.bind_some, Option.map_some]))
        have e7' : p_cTyp_check_37 0 (St 5 τ2 (some P)) = some τ3 := e7
        have hS3 : τ3.1 1 = (ctell τ2 5 (nI P)).1 1 := hTT.1 1 (by decide) (by decide)
        have hn3 : τ3.1 1 0 ≠ 0 := by rw [hS3]; exact hS
        dsimp only
        rw [e7', Option.bind_some, Option.bind_some, c_ana_told hn3, Option.bind_some, c_63_told hn3]
        dsimp only
        rw [if_pos rfl, r_65]
        refine ⟨_, _, _, rfl, ?_, Or.inl (XF_end (ρ := rtell ρ2 5 (nI P)) hn3 ?_ ?_ ?_ ?_)⟩
        · rw [hS3]; unfold rtell ctell; simp (disch := first | assumption | decide | omega) only [nI_lit, cT_lt, cF_lt, cT_le, cF_le, cT_eq, cF_eq, nF_le, mF_eq, mG_eq, mT_lt, eq_self, nI_clamp, nI_add, Nat.add_zero, nI_sub, s_i_ne, s_i_eq, s_i_2, s_l_1, s_l_ne, s_l_eq, s_p_ne, s_p_eq, s_p_2, s_q_1, s_q_ne, s_q_eq, u_ne, u_eq, v_ne, v_eq, w_ne, w_eq, jI_at_in, jL_at_in, false_or, or_false, true_or, or_true, true_and, and_true, false_and, and_false, not_true_eq_false, not_false_eq_true, ↓reduceIte, Option.bind_some, Option.map_some]
        · rw [hS3]; unfold rtell ctell; simp (disch := first | assumption | decide | omega) only [nI_lit, cT_lt, cF_lt, cT_le, cF_le, cT_eq, cF_eq, nF_le, mF_eq, mG_eq, mT_lt, eq_self, nI_clamp, nI_add, Nat.add_zero, nI_sub, s_i_ne, s_i_eq, s_i_2, s_l_1, s_l_ne, s_l_eq, s_p_ne, s_p_eq, s_p_2, s_q_1, s_q_ne, s_q_eq, u_ne, u_eq, v_ne, v_eq, w_ne, w_eq, jI_at_in, jL_at_in, false_or, or_false, true_or, or_true, true_and, and_true, false_and, and_false, not_true_eq_false, not_false_eq_true, ↓reduceIte, Option.bind_some, Option.map_some]
        · rw [hS3]; unfold rtell ctell; simp (disch := first | assumption | decide | omega) only [nI_lit, cT_lt, cF_lt, cT_le, cF_le, cT_eq, cF_eq, nF_le, mF_eq, mG_eq, mT_lt, eq_self, nI_clamp, nI_add, Nat.add_zero, nI_sub, s_i_ne, s_i_eq, s_i_2, s_l_1, s_l_ne, s_l_eq, s_p_ne, s_p_eq, s_p_2, s_q_1, s_q_ne, s_q_eq, u_ne, u_eq, v_ne, v_eq, w_ne, w_eq, jI_at_in, jL_at_in, false_or, or_false, true_or, or_true, true_and, and_true, false_and, and_false, not_true_eq_false, not_false_eq_true, ↓reduceIte, Option.bind_some, Option.map_some]
        · unfold rtell; simp (disch := first | assumption | decide | omega) only [w39, nI_lit, cT_lt, cF_lt, cT_le, cF_le, cT_eq, cF_eq, nF_le, mF_eq, mG_eq, mT_lt, eq_self, nI_clamp, nI_add, Nat.add_zero, nI_sub, s_i_ne, s_i_eq, s_i_2, s_l_1, s_l_ne, s_l_eq, s_p_ne, s_p_eq, s_p_2, s_q_1, s_q_ne, s_q_eq, u_ne, u_eq, v_ne, v_eq, w_ne, w_eq, jI_at_in, jL_at_in, false_or, or_false, true_or, or_true, true_and, and_true, false_and, and_false, not_true_eq_false, not_false_eq_true, ↓reduceIte, Option.bind_some, Option.map_some]
        · rw [hTT.1 29 (by decide) (by decide), hTT.1 23 (by decide) (by decide)]; unfold ctell; simp (disch := first | assumption | decide | omega) only [g5, nI_lit, cT_lt, cF_lt, cT_le, cF_le, cT_eq, cF_eq, nF_le, mF_eq, mG_eq, mT_lt, eq_self, nI_clamp, nI_add, Nat.add_zero, nI_sub, s_i_ne, s_i_eq, s_i_2, s_l_1, s_l_ne, s_l_eq, s_p_ne, s_p_eq, s_p_2, s_q_1, s_q_ne, s_q_eq, u_ne, u_eq, v_ne, v_eq, w_ne, w_eq, jI_at_in, jL_at_in, false_or, or_false, true_or, or_true, true_and, and_true, false_and, and_false, not_true_eq_false, not_false_eq_true, ↓reduceIte, Option.bind_some, Option.map_some]
      | none =>
        obtain ⟨τ3, e7, hTy⟩ := types_all hE hT.1 hm (fun g hg => (hT.2.2.2.2.2 g hg).1) hPt (FunT_of hT)
        have e7' : p_cTyp_check_37 0 (St 5 τ2 none) = some τ3 := e7
        dsimp only
        rw [e7', Option.bind_some, Option.bind_some]
        dsimp only
        rw [if_neg (by decide)]
        rcases hTy with ⟨ρ3, e8, hX⟩ | ⟨ρ3, ρ4, e8, e9, hX⟩ | ⟨ρ3, ρ4, e8, e9, hTA, k1, k1', k2, k3, k4⟩
        · have f5 := f_r_types ρ2 ρ2 jFr.rfl (0, ρ3) e8
          rw [e8, Option.bind_some, c_ana_told hX.1, Option.bind_some, c_63_told hX.1]
          dsimp only
          rw [if_pos rfl, r_65]
          refine ⟨_, _, _, rfl, ?_, Or.inl (XF_end hX.1 hX.2.1 hX.2.2.1 (((f5 106 39 (by decide) (by decide)).1).trans w39) ?_)⟩
          · rw [hX.2.1]
          · rw [hX.2.2.2.1 29 (by decide), hX.2.2.2.1 23 (by decide)]; exact g5
        · have f5 := f_r_types ρ2 ρ2 jFr.rfl (1, ρ3) e8
          have f6 := f_r_countCases ρ3 ρ3 jFr.rfl (0, ρ4) e9
          rw [e8, Option.bind_some, c_ana_told hX.1, Option.bind_some, c_63_told hX.1]
          dsimp only
          rw [if_neg (by decide), e9, Option.bind_some]
          dsimp only
          rw [if_pos rfl, r_65]
          refine ⟨_, _, _, rfl, ?_, Or.inl (XF_end hX.1 hX.2.1 hX.2.2.1 (((f6 106 39 (by decide) (by decide)).1).trans (((f5 106 39 (by decide) (by decide)).1).trans w39)) ?_)⟩
          · rw [hX.2.1]
          · rw [hX.2.2.2.1 29 (by decide), hX.2.2.2.1 23 (by decide)]; exact g5
        · have f2' : τ2.2 19 = τ1.2 19 := by funext j; exact (f3 19 j (by decide) (by simp [fs_cRea_readProgram])).2
          have f1' : ρ2.1 111 = ρ1.1 111 := by funext j; exact (f4 111 j (by decide) (by simp [fs_r_readAll])).1
          obtain ⟨R, V, τ5, ρ5, e10, e11, h410, h38, hUS⟩ := us_of hE hG hT (fun k q1 q2 => by rw [f2', f1']; exact hV k q1 q2) hTA k1 k1' k2 k3
          rw [e8, Option.bind_some, e10, Option.bind_some]
          dsimp only
          rw [if_neg (by decide), e9, Option.bind_some]
          dsimp only
          rw [if_neg (by decide)]
          refine ⟨nI F, τ5, ρ5, ?_, ?_, Or.inr ⟨E, G, F, nS, tS, R, _, _, _, _, V, hUS, hET, hEZ⟩⟩
          · unfold p_cl_compile_63
            rw [show v_cFau_isTold τ5 = 0 from if_pos hUS.2.2.2.2.2.2.2.2.2.1, if_pos rfl, h410]
          · unfold p_r_compile_66
            rw [if_pos (Or.inr rfl), if_pos (by decide), e11, Option.bind_some, h38]
  · have hn : τ1.1 1 0 ≠ 0 := by rw [o1]; decide
    obtain ⟨τ2, e3, k1, k2, k3⟩ := c_told hn
    have hn2 : τ2.1 1 0 ≠ 0 := by rw [k1]; exact hn
    dsimp only
    rw [e3, Option.bind_some, c_check_told hn2, Option.bind_some, c_ana_told hn2, Option.bind_some, c_63_told hn2, if_pos rfl, r_65]
    refine ⟨_, _, _, rfl, ?_, Or.inl (XF_end hn2 ?_ ?_ q39 ?_)⟩
    · rw [k1, o1, o2]
    · rw [k1, o1, o2]
    · rw [k1, o3]
    · rw [k2, k3]; exact z1
