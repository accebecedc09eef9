/-! TYPING, 16: all functions; the whole. -/
def r2T : Int32 × jx_S → Option ((Int32 × jx_S) ⊕ (Int32 × jx_S)) := fun s => p_r_types_2_s s.1 (s.2)
def r2C : Int32 × jx_S → Option ((Int32 × jx_S) ⊕ (Int32 × jx_S)) := fun s => p_r_countCases_2_s s.1 (s.2)
/-- a fault told by both in typing -/
def TX (τ ρ τ' ρ' : jx_S) : Prop := τ'.1 1 0 ≠ 0 ∧ ρ'.1 106 4 = τ'.1 1 0 ∧ ρ'.1 106 5 = τ'.1 1 1 ∧ (∀ r, r ∉ [1, 33, 37, 53] → τ'.1 r = τ.1 r) ∧ τ'.2 = τ.2 ∧ (∀ r, r ∉ [106, 123, 124, 133, 144, 145] → ρ'.1 r = ρ.1 r)
theorem TX_of {τ ρ τ1 ρ1 τ2 : jx_S} (h : TyX τ ρ τ1 ρ1) (k : TT τ1 τ2) : TX τ ρ τ2 ρ1 := by
  obtain ⟨P, n, h1, h2, h3, h4, h5, h6, h7, h8⟩ := h
  refine ⟨?_, ?_, ?_, fun r hr => ?_, k.2.trans h5, fun r hr => h8 r (fun z => ?_)⟩
  · rw [k.1 1 (by decide) (by decide), h2]; rcases h1 with z | z <;> (rw [z]; decide)
  · rw [k.1 1 (by decide) (by decide), h2, h6]
  · rw [k.1 1 (by decide) (by decide), h3, h7]
  · simp only [List.mem_cons, List.not_mem_nil, or_false, not_or] at hr
    rw [k.1 r hr.2.2.1 hr.2.2.2, h4 r hr.2.2.1 hr.2.1 hr.1]
  · simp only [List.mem_cons, List.not_mem_nil, or_false, not_or] at hr z
    omega
theorem TX_0 {a b : Nat} {τ ρ τ1 ρ1 τ2 ρ2 : jx_S} (t : TF0 a b τ ρ τ1 ρ1) (h : TX τ1 ρ1 τ2 ρ2) : TX τ ρ τ2 ρ2 := by
  obtain ⟨h1, h2, h3, h4, h5, h6⟩ := h
  obtain ⟨a1, a2, a3, a4, a5, a7, a8, a9⟩ := t
  refine ⟨h1, h2, h3, fun r hr => (h4 r hr).trans (a1 r (fun z => hr (by rw [z]; decide)) (fun z => hr (by rw [z]; decide))), h5.trans a2, fun r hr => (h6 r hr).trans (a8 r (fun z => hr ?_))⟩
  simp only [List.mem_cons, List.not_mem_nil, or_false] at z ⊢
  omega
theorem TyD_keep0 {E : jEn} {G : jGh} {F : Nat} {pN bN : Nat → Nat} {ty : Nat → Nat → Nat} {f a b k : Nat} {τ ρ τ' ρ' : jx_S} (h : TyD E G F pN bN ty f τ ρ k) (t : TF0 a b τ ρ τ' ρ') (hk : k < a) : TyD E G F pN bN ty f τ' ρ' k := TyD_keep (TyD_56 h) (TF0_TF t) hk
theorem FunT_keep0 {E : jEn} {G : jGh} {lN' : Nat → Nat} {τ ρ τ' ρ' : jx_S} {g nf r a b : Nat} (h : FunT E G lN' τ ρ g nf r) (t : TF0 a b τ ρ τ' ρ') : FunT E G lN' τ' ρ' g nf r := FunT_keep (FunT_56 h) (TF0_TF t)
theorem ty_funs {E : jEn} (hE : EnvOK E) {G : jGh} {F : Nat} {nS pN bN lN' tk' : Nat → Nat} {ty : Nat → Nat → Nat} (hF : F ≤ 40) (hm : ∀ g h, g ≤ h → h ≤ F → nS g ≤ nS h) (hm1 : ∀ g, g < F → nS g < nS (g + 1)) : ∀ n f N M τ ρ, F - f = n → f ≤ F → n < N → n < M → TyP0 E F pN bN lN' tk' ty τ ρ → (∀ g, g < F → FunT E G lN' τ ρ g (nS g) (nS (g + 1) - 1)) → (∀ g, g < f → τ.1 37 (nS (g + 1)) = nI (bN g) ∧ ∀ k, nS g ≤ k → k < nS (g + 1) → TyD E G F pN bN ty g τ ρ k) →
    (∃ τ' ρ', jx_loop N c37 (nI f, τ) = some τ' ∧ jx_loop M r2T (nI f, ρ) = some (0, ρ') ∧ TX τ ρ τ' ρ') ∨
    (∃ τ' ρ', jx_loop N c37 (nI f, τ) = p_cTyp_check_61 0 τ' ∧ jx_loop M r2T (nI f, ρ) = some (1, ρ') ∧ TF0 (nS f) (nS F) τ ρ τ' ρ' ∧ TyP0 E F pN bN lN' tk' ty τ' ρ' ∧ ∀ g, g < F → τ'.1 37 (nS (g + 1)) = nI (bN g) ∧ ∀ k, nS g ≤ k → k < nS (g + 1) → TyD E G F pN bN ty g τ' ρ' k) := by
  intro n
  induction n with
  | zero =>
    intro f N M τ ρ hn hf hN hM hP hT hD
    have ef : f = F := by omega
    subst ef
    obtain ⟨N, rfl⟩ : ∃ K, N = K + 1 := ⟨N - 1, by omega⟩
    obtain ⟨M, rfl⟩ : ∃ K, M = K + 1 := ⟨M - 1, by omega⟩
    refine Or.inr ⟨τ, ρ, jx_loop_out ?_ N, jx_loop_inr (b := (1, ρ)) ?_, ⟨fun _ _ _ => rfl, rfl, fun _ _ => ⟨rfl, rfl⟩, fun _ _ => rfl, fun _ _ _ => rfl, fun _ _ => ⟨rfl, rfl⟩, fun _ _ => rfl, rfl⟩, hP, hD⟩
    · show p_cTyp_check_37_s (nI f) τ = _
      unfold p_cTyp_check_37_s
      rw [hP.2.2.2.1, if_pos (nI_le (by omega) (by omega))]
    · show p_r_types_2_s (nI f) ρ = _
      unfold p_r_types_2_s
      rw [hP.2.2.2.2.1, if_pos (nI_le (by omega) (by omega))]
      rfl
  | succ n ih =>
    intro f N M τ ρ hn hf hN hM hP hT hD
    obtain ⟨N, rfl⟩ : ∃ K, N = K + 1 := ⟨N - 1, by omega⟩
    obtain ⟨M, rfl⟩ : ∃ K, M = K + 1 := ⟨M - 1, by omega⟩
    have hff : f < F := by omega
    have hs := hm1 f hff
    have cst : ∀ τ1, p_cTyp_checkBody (nI f) τ = some τ1 → c37 (nI f, τ) = some (.inl (nI (f + 1), τ1)) := fun τ1 e => by
      show p_cTyp_check_37_s (nI f) τ = _
      unfold p_cTyp_check_37_s
      rw [hP.2.2.2.1, if_neg (nI_ge hff (by omega)), e, Option.bind_some, ← nI_succ]
    rcases ty_fun hE hF hff hP (hT f hff) with ⟨τ1, ρ1, y1, y2, y3⟩ | ⟨τ1, ρ1, y1, y2, y3, y4, y5, y6⟩
    · have k0 : τ1.1 1 0 ≠ 0 := by
        obtain ⟨P, n, z1, z2, _⟩ := y3
        rw [z2]; rcases z1 with z | z <;> (rw [z]; decide)
      have kr : ∀ r, r ≠ 37 → r ≠ 33 → r ≠ 1 → τ1.1 r = τ.1 r := by
        obtain ⟨P, n, z1, z2, z3, z4, _⟩ := y3
        exact z4
      obtain ⟨τ2, z1, z2⟩ := told_37 (pN := pN) (ty := ty) hF n (f + 1) N τ1 (by omega) (by omega) (by omega) k0 (by rw [kr 4 (by decide) (by decide) (by decide)]; exact hP.2.2.2.1) (PT_keep (PT_of hP.2.2.1) (kr 43 (by decide) (by decide) (by decide)) (kr 57 (by decide) (by decide) (by decide)))
      refine Or.inl ⟨τ2, ρ1, by rw [jx_loop_inl (cst τ1 y1), z1], jx_loop_inr y2, TX_of y3 z2⟩
    · rw [show nS (f + 1) - 1 + 1 = nS (f + 1) by omega] at y3 y5
      have ih' := ih (f + 1) N M τ1 ρ1 (by omega) (by omega) (by omega) (by omega) y4 (fun g hg => FunT_keep0 (hT g hg) y3) (fun g hg => by
        by_cases hgf : g = f
        · subst hgf
          exact ⟨y5, fun k k1 k2 => y6 k k1 (by omega)⟩
        · obtain ⟨w1, w2⟩ := hD g (by omega)
          have h1 := hm1 g (by omega)
          have h2 := hm (g + 1) f (by omega) (by omega)
          refine ⟨?_, fun k k1 k2 => TyD_keep0 (w2 k k1 k2) y3 (by omega)⟩
          have := (y3.2.2.1 (nS (g + 1) - 1) (by omega)).2
          rw [show nS (g + 1) - 1 + 1 = nS (g + 1) by omega] at this
          rw [this]; exact w1)
      rw [jx_loop_inl (cst τ1 y1), jx_loop_inl (show r2T (nI f, ρ) = _ from y2)]
      rcases ih' with ⟨τ2, ρ2, z1, z2, z3⟩ | ⟨τ2, ρ2, z1, z2, z3, z4, z5⟩
      · exact Or.inl ⟨τ2, ρ2, z1, z2, TX_0 y3 z3⟩
      · exact Or.inr ⟨τ2, ρ2, z1, z2, TF0_trans y3 z3 (Nat.le_refl _) (by omega) (hm (f + 1) F (by omega) (Nat.le_refl _)) (Nat.le_refl _), z4, z5⟩
/-- how many cases: both loops -/
theorem ty_counts {E : jEn} (hE : EnvOK E) {F : Nat} {pN bN lN' tk' : Nat → Nat} {ty : Nat → Nat → Nat} (hF : F ≤ 40) : ∀ n f N M τ ρ, F - f = n → f ≤ F → n < N → n < M → TyP0 E F pN bN lN' tk' ty τ ρ → (∀ g, g < f → cnt (ty g) (pN g) ≤ 1000 ∧ τ.1 53 g = nI (cnt (ty g) (pN g)) ∧ ρ.1 133 g = nI (cnt (ty g) (pN g))) →
    (∃ τ' ρ', jx_loop N c61 (nI f, τ) = some τ' ∧ jx_loop M r2C (nI f, ρ) = some (0, ρ') ∧ TX τ ρ τ' ρ') ∨
    (∃ τ' ρ', jx_loop N c61 (nI f, τ) = some τ' ∧ jx_loop M r2C (nI f, ρ) = some (1, ρ') ∧ (∀ r, r ≠ 53 → τ'.1 r = τ.1 r) ∧ τ'.2 = τ.2 ∧ (∀ r, r ≠ 133 → ρ'.1 r = ρ.1 r) ∧ ρ'.2 = ρ.2 ∧ ∀ g, g < F → cnt (ty g) (pN g) ≤ 1000 ∧ τ'.1 53 g = nI (cnt (ty g) (pN g)) ∧ ρ'.1 133 g = nI (cnt (ty g) (pN g))) := by
  intro n
  have hE1 := hE.1
  induction n with
  | zero =>
    intro f N M τ ρ hn hf hN hM hP hD
    have ef : f = F := by omega
    subst ef
    obtain ⟨N, rfl⟩ : ∃ K, N = K + 1 := ⟨N - 1, by omega⟩
    obtain ⟨M, rfl⟩ : ∃ K, M = K + 1 := ⟨M - 1, by omega⟩
    refine Or.inr ⟨τ, ρ, jx_loop_inr ?_, jx_loop_inr ?_, fun _ _ => rfl, rfl, fun _ _ => rfl, rfl, hD⟩
    · show p_cTyp_check_61_s (nI f) τ = _
      unfold p_cTyp_check_61_s
      rw [hP.2.2.2.1, if_pos (nI_le (by omega) (by omega))]
      rfl
    · show p_r_countCases_2_s (nI f) ρ = _
      unfold p_r_countCases_2_s
      rw [hP.2.2.2.2.1, if_pos (nI_le (by omega) (by omega))]
      rfl
  | succ n ih =>
    intro f N M τ ρ hn hf hN hM hP hD
    obtain ⟨N, rfl⟩ : ∃ K, N = K + 1 := ⟨N - 1, by omega⟩
    obtain ⟨M, rfl⟩ : ∃ K, M = K + 1 := ⟨M - 1, by omega⟩
    have hff : f < F := by omega
    obtain ⟨p1, p2, p3, p4, p5, p6, p7, p8⟩ := id hP
    obtain ⟨d1, d2, d3, d4, d5, d6, d7, d8, d9, d10, d11, d12, d13, d14⟩ := p3 f hff
    have hc := c_count (f := f) (t := ty f) (by omega) d1 d3 (fun i hi => ⟨(d9 i (by omega)).1, (d9 i (by omega)).2.1⟩)
    have hr := r_count (f := f) (t := ty f) (tk := tk' f) (P := eP E (tk' f)) (by omega) d2 d3 (fun i hi => ⟨(d9 i (by omega)).1, d10 i hi⟩) d12 (by omega) (p2.2 (tk' f) (by omega)).2.1 p7
    have cst : ∀ τ1, p_cTyp_countCases (nI f) τ = some τ1 → c61 (nI f, τ) = some (.inl (nI (f + 1), τ1)) := fun τ1 e => by
      show p_cTyp_check_61_s (nI f) τ = _
      unfold p_cTyp_check_61_s
      rw [p4, if_neg (nI_ge hff (by omega)), e, Option.bind_some, ← nI_succ]
    have rst : r2C (nI f, ρ) = p_r_countCases_14 (nI f) 1 0 ρ := by
      show p_r_countCases_2_s (nI f) ρ = _
      unfold p_r_countCases_2_s
      rw [p5, if_neg (nI_ge hff (by omega))]
    by_cases hk : cnt (ty f) (pN f) ≤ 1000
    · rw [if_pos hk] at hc hr
      have hci : cnt (ty f) (pN f) < 2 ^ 31 := by omega
      have e53 : (jI_put 40 τ 53 (nI f) (nI (cnt (ty f) (pN f)))).1 53 = upd (τ.1 53) f (nI (cnt (ty f) (pN f))) := by rw [s_p_eq, jI_up_in (by omega) (by omega)]
      have k1 : ∀ r, r ≠ 53 → (jI_put 40 τ 53 (nI f) (nI (cnt (ty f) (pN f)))).1 r = τ.1 r := fun r h => s_p_ne h
      have k2 : (jI_put 40 τ 53 (nI f) (nI (cnt (ty f) (pN f)))).2 = τ.2 := rfl
      have k3 : (jx_i ρ 133 f (nI (cnt (ty f) (pN f)))).1 133 = upd (ρ.1 133) f (nI (cnt (ty f) (pN f))) := s_i_eq
      have k4 : ∀ r, r ≠ 133 → (jx_i ρ 133 f (nI (cnt (ty f) (pN f)))).1 r = ρ.1 r := fun r h => s_i_ne h
      have k5 : (jx_i ρ 133 f (nI (cnt (ty f) (pN f)))).2 = ρ.2 := rfl
      rw [jx_loop_inl (cst _ hc), jx_loop_inl (rst.trans hr)]
      generalize jI_put 40 τ 53 (nI f) (nI (cnt (ty f) (pN f))) = τ1 at *
      generalize jx_i ρ 133 f (nI (cnt (ty f) (pN f))) = ρ1 at *
      have hP1 : TyP0 E F pN bN lN' tk' ty τ1 ρ1 := ⟨EnvC_keep p1 (k1 15 (by decide)) (k1 17 (by decide)) (by rw [k2]), EnvR_keep p2 (k4 107 (by decide)) (k4 108 (by decide)) (k4 109 (by decide)) (k4 110 (by decide)) (by rw [k4 106 (by decide)]), FD_keep p3 (fun r hr => k1 r (fun z => by subst z; revert hr; decide)) (fun r hr => k4 r (fun z => by subst z; revert hr; decide)), by rw [k1 4 (by decide)]; exact p4, by rw [k4 106 (by decide)]; exact p5, by rw [k1 1 (by decide)]; exact p6, by rw [k4 106 (by decide)]; exact p7, by rw [k1 29 (by decide)]; exact p8⟩
      rcases ih (f + 1) N M τ1 ρ1 (by omega) (by omega) (by omega) (by omega) hP1 (fun g hg => by
        rw [e53, k3]
        by_cases hgf : g = f
        · subst hgf; rw [u_eq rfl, u_eq rfl]; exact ⟨hk, rfl, rfl⟩
        · rw [u_ne hgf, u_ne hgf]; exact hD g (by omega)) with ⟨τ2, ρ2, z1, z2, z3, z4, z5, z6, z7, z8⟩ | ⟨τ2, ρ2, z1, z2, z3, z4, z5, z6, z7⟩
      · refine Or.inl ⟨τ2, ρ2, z1, z2, z3, z4, z5, fun r hr => (z6 r hr).trans (k1 r (fun z => hr (by rw [z]; decide))), z7.trans k2, fun r hr => (z8 r hr).trans (k4 r (fun z => hr (by rw [z]; decide)))⟩
      · exact Or.inr ⟨τ2, ρ2, z1, z2, fun r hr => (z3 r hr).trans (k1 r hr), z4.trans k2, fun r hr => (z5 r hr).trans (k4 r hr), z6.trans k5, z7⟩
    · rw [if_neg hk] at hc hr
      have ht : p_cTyp_tell 8 (τ.1 41 f) τ = some (ctell τ 8 (nI (eP E (tk' f)))) := by
        unfold p_cTyp_tell
        rw [d11, jI_at_in (by omega) (by omega), (p1 (tk' f) (by omega)).2.1, q_c_tell τ 8 _ p6]
        rfl
      rw [ht, Option.bind_some] at hc
      have e0 : ∀ v, (jI_put 40 (ctell τ 8 (nI (eP E (tk' f)))) 53 (nI f) v).1 1 0 = 8 ∧ (jI_put 40 (ctell τ 8 (nI (eP E (tk' f)))) 53 (nI f) v).1 1 1 = nI (eP E (tk' f)) := fun v => by
        unfold ctell
        exact ⟨by simp (disch := first | assumption | decide | omega) only [nI_lit, cT_lt, cF_lt, cT_le, cF_le, cT_eq, cF_eq, nF_le, mF_eq, mG_eq, mT_lt, eq_self, nI_clamp, nI_add, Nat.add_zero, nI_sub, s_i_ne, s_i_eq, s_i_2, s_l_1, s_l_ne, s_l_eq, s_p_ne, s_p_eq, s_p_2, s_q_1, s_q_ne, s_q_eq, u_ne, u_eq, v_ne, v_eq, w_ne, w_eq, jI_at_in, jL_at_in, false_or, or_false, true_or, or_true, true_and, and_true, false_and, and_false, not_true_eq_false, not_false_eq_true, ↓reduceIte, Option.bind_some, Option.map_some], by simp (disch := first | assumption | decide | omega) only [nI_lit, cT_lt, cF_lt, cT_le, cF_le, cT_eq, cF_eq, nF_le, mF_eq, mG_eq, mT_lt, eq_self, nI_clamp, nI_add, Nat.add_zero, nI_sub, s_i_ne, s_i_eq, s_i_2, s_l_1, s_l_ne, s_l_eq, s_p_ne, s_p_eq, s_p_2, s_q_1, s_q_ne, s_q_eq, u_ne, u_eq, v_ne, v_eq, w_ne, w_eq, jI_at_in, jL_at_in, false_or, or_false, true_or, or_true, true_and, and_true, false_and, and_false, not_true_eq_false, not_false_eq_true, ↓reduceIte, Option.bind_some, Option.map_some]⟩
      have k1 : ∀ v r, r ≠ 53 → r ≠ 1 → (jI_put 40 (ctell τ 8 (nI (eP E (tk' f)))) 53 (nI f) v).1 r = τ.1 r := fun v r h1 h2 => by
        unfold ctell
        rw [s_p_ne h1, s_i_ne h2, s_i_ne h2]
      have k2 : ∀ v, (jI_put 40 (ctell τ 8 (nI (eP E (tk' f)))) 53 (nI f) v).2 = τ.2 := fun v => rfl
      rw [jx_loop_inl (cst _ hc), jx_loop_inr (rst.trans hr)]
      have e0' := e0 (nI (cnt (ty f) (pN f)))
      have k1' := k1 (nI (cnt (ty f) (pN f)))
      have k2' := k2 (nI (cnt (ty f) (pN f)))
      generalize jI_put 40 (ctell τ 8 (nI (eP E (tk' f)))) 53 (nI f) (nI (cnt (ty f) (pN f))) = τ1 at *
      obtain ⟨τ2, z1, z2⟩ := told_61 (pN := pN) (ty := ty) hF n (f + 1) N τ1 (by omega) (by omega) (by omega) (by rw [e0'.1]; decide) (by rw [k1' 4 (by decide) (by decide)]; exact p4) (PT_keep (PT_of p3) (k1' 43 (by decide) (by decide)) (k1' 57 (by decide) (by decide)))
      refine Or.inl ⟨τ2, _, z1, rfl, ?_, ?_, ?_, fun r hr => ?_, z2.2.trans k2', fun r hr => ?_⟩
      · rw [z2.1 1 (by decide) (by decide), e0'.1]; decide
      · rw [z2.1 1 (by decide) (by decide), e0'.1]; unfold rtell; simp (disch := first | assumption | decide | omega) only [nI_lit, cT_lt, cF_lt, cT_le, cF_le, cT_eq, cF_eq, nF_le, mF_eq, mG_eq, mT_lt, eq_self, nI_clamp, nI_add, Nat.add_zero, nI_sub, s_i_ne, s_i_eq, s_i_2, s_l_1, s_l_ne, s_l_eq, s_p_ne, s_p_eq, s_p_2, s_q_1, s_q_ne, s_q_eq, u_ne, u_eq, v_ne, v_eq, w_ne, w_eq, jI_at_in, jL_at_in, false_or, or_false, true_or, or_true, true_and, and_true, false_and, and_false, not_true_eq_false, not_false_eq_true, ↓reduceIte, Option.bind_some, Option.map_some]
      · rw [z2.1 1 (by decide) (by decide), e0'.2]; unfold rtell; simp (disch := first | assumption | decide | omega) only [nI_lit, cT_lt, cF_lt, cT_le, cF_le, cT_eq, cF_eq, nF_le, mF_eq, mG_eq, mT_lt, eq_self, nI_clamp, nI_add, Nat.add_zero, nI_sub, s_i_ne, s_i_eq, s_i_2, s_l_1, s_l_ne, s_l_eq, s_p_ne, s_p_eq, s_p_2, s_q_1, s_q_ne, s_q_eq, u_ne, u_eq, v_ne, v_eq, w_ne, w_eq, jI_at_in, jL_at_in, false_or, or_false, true_or, or_true, true_and, and_true, false_and, and_false, not_true_eq_false, not_false_eq_true, ↓reduceIte, Option.bind_some, Option.map_some]
      · simp only [List.mem_cons, List.not_mem_nil, or_false, not_or] at hr
        rw [z2.1 r hr.2.2.1 hr.2.2.2, k1' r hr.2.2.2 hr.1]
      · simp only [List.mem_cons, List.not_mem_nil, or_false, not_or] at hr
        unfold rtell
        rw [s_i_ne hr.1, s_i_ne hr.1]
