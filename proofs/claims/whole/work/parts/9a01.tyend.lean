/-! TYPING, 17: the whole of it. -/
theorem FunT_of {E : jEn} {G : jGh} {F N : Nat} {nS tS : Nat → Nat} {τ ρ : jx_S} (h : TreeOK E G F N nS tS τ ρ) : ∀ g, g < F → FunT E G (locN ρ) τ ρ g (nS g) (nS (g + 1) - 1) := by
  obtain ⟨h1, h2, h3, h4, h5, h6⟩ := h
  intro g hg
  obtain ⟨a1, a2, a3, p, b, l, ⟨⟨f1, f2, f3⟩, f4, f5, f6, f7, f8, f9, f10, f11, f12, f13, f14, f15, f16, f17, f18⟩, k1, k2, k3, k4, _⟩ := h6 g hg
  have el : locN ρ g = l := by unfold locN; rw [f11]; exact nI_clamp (by omega)
  refine ⟨f15, by omega, f13, f14, f18.2.2.1, f18.1, f18.2.1, fun k k1 k2 => ⟨NodeS_of (f17 k k1 k2).1, ?_⟩⟩
  rw [el]
  exact (f17 k k1 k2).2.1
theorem nS_mono {E : jEn} {G : jGh} {F N : Nat} {nS tS : Nat → Nat} {τ ρ : jx_S} (h : TreeOK E G F N nS tS τ ρ) : ∀ g k, g ≤ k → k ≤ F → nS g ≤ nS k := by
  intro g k
  induction k with
  | zero => intro h1 _; rw [show g = 0 by omega]; exact Nat.le_refl _
  | succ k ih =>
    intro h1 h2
    by_cases e : g = k + 1
    · rw [e]; exact Nat.le_refl _
    · have := ih (by omega) (by omega)
      have := (h.2.2.2.2.2 k (by omega)).1
      omega
def crY : List Nat := [23, 25, 27, 29, 31, 33, 35, 37, 51]
def rrY : List Nat := [112, 113, 114, 115, 116, 117, 118, 119, 120, 121, 122, 123, 124, 131]
theorem TyD_same {E : jEn} {G : jGh} {F : Nat} {pN bN : Nat → Nat} {ty : Nat → Nat → Nat} {f k : Nat} {τ ρ τ' ρ' : jx_S} (h : TyD E G F pN bN ty f τ ρ k) (h1 : same crY τ τ') (h2 : same rrY ρ ρ') : TyD E G F pN bN ty f τ' ρ' k := by
  unfold TyD NdS NdC at *
  rw [h1 23 (by decide), h1 25 (by decide), h1 27 (by decide), h1 29 (by decide), h1 31 (by decide), h1 33 (by decide), h1 35 (by decide), h1 37 (by decide), h2 112 (by decide), h2 113 (by decide), h2 114 (by decide), h2 115 (by decide), h2 116 (by decide), h2 117 (by decide), h2 118 (by decide), h2 119 (by decide), h2 120 (by decide), h2 121 (by decide), h2 122 (by decide), h2 123 (by decide), h2 124 (by decide)]
  exact h
theorem FunT_same {E : jEn} {G : jGh} {lN' : Nat → Nat} {τ ρ τ' ρ' : jx_S} {g nf r : Nat} (h : FunT E G lN' τ ρ g nf r) (h1 : same crY τ τ') (h2 : same rrY ρ ρ') : FunT E G lN' τ' ρ' g nf r := by
  unfold FunT NodeS NdS NdC at *
  rw [h1 23 (by decide), h1 25 (by decide), h1 27 (by decide), h1 29 (by decide), h1 31 (by decide), h1 33 (by decide), h1 35 (by decide), h1 51 (by decide), h2 112 (by decide), h2 113 (by decide), h2 114 (by decide), h2 115 (by decide), h2 116 (by decide), h2 117 (by decide), h2 118 (by decide), h2 119 (by decide), h2 120 (by decide), h2 121 (by decide), h2 122 (by decide), h2 131 (by decide)]
  exact h
/-- all that typing gives -/
def TyAll (E : jEn) (G : jGh) (F : Nat) (nS pN bN lN' tk' : Nat → Nat) (ty : Nat → Nat → Nat) (τ ρ : jx_S) : Prop := TyP0 E F pN bN lN' tk' ty τ ρ ∧ ∀ g, g < F → FunT E G lN' τ ρ g (nS g) (nS (g + 1) - 1) ∧ τ.1 37 (nS (g + 1)) = nI (bN g) ∧ (∀ k, nS g ≤ k → k < nS (g + 1) → TyD E G F pN bN ty g τ ρ k) ∧ cnt (ty g) (pN g) ≤ 1000 ∧ τ.1 53 g = nI (cnt (ty g) (pN g)) ∧ ρ.1 133 g = nI (cnt (ty g) (pN g))
theorem types_all {E : jEn} (hE : EnvOK E) {G : jGh} {F : Nat} {nS pN bN lN' tk' : Nat → Nat} {ty : Nat → Nat → Nat} (hF : F ≤ 40) (hm : ∀ g h, g ≤ h → h ≤ F → nS g ≤ nS h) (hm1 : ∀ g, g < F → nS g < nS (g + 1)) {τ ρ : jx_S} (hP : TyP0 E F pN bN lN' tk' ty τ ρ) (hT : ∀ g, g < F → FunT E G lN' τ ρ g (nS g) (nS (g + 1) - 1)) :
    ∃ τ', p_cTyp_check_37 0 τ = some τ' ∧ ((∃ ρ', p_r_types ρ = some (0, ρ') ∧ TX τ ρ τ' ρ') ∨ (∃ ρ1 ρ', p_r_types ρ = some (1, ρ1) ∧ p_r_countCases ρ1 = some (0, ρ') ∧ TX τ ρ τ' ρ') ∨
      (∃ ρ1 ρ', p_r_types ρ = some (1, ρ1) ∧ p_r_countCases ρ1 = some (1, ρ') ∧ TyAll E G F nS pN bN lN' tk' ty τ' ρ' ∧ (∀ r, r ∉ [33, 37, 53] → τ'.1 r = τ.1 r) ∧ τ'.2 = τ.2 ∧ (∀ r, r ∉ [106, 123, 124, 133, 144, 145] → ρ'.1 r = ρ.1 r) ∧ (∀ j, j ≠ 55 → j ≠ 56 → ρ'.1 106 j = ρ.1 106 j) ∧ ρ'.2 = ρ.2)) := by
  have e1 : p_cTyp_check_37 0 τ = jx_loop 100000000 c37 (nI 0, τ) := rfl
  have e2 : p_r_types ρ = jx_loop 100000000 r2T (nI 0, ρ) := rfl
  rw [e1, e2]
  rcases ty_funs hE hF hm hm1 F 0 100000000 100000000 τ ρ (by omega) (by omega) (by omega) (by omega) hP hT (fun g hg => absurd hg (by omega)) with ⟨τ1, ρ1, y1, y2, y3⟩ | ⟨τ1, ρ1, y1, y2, y3, y4, y5⟩
  · exact ⟨τ1, y1, Or.inl ⟨ρ1, y2, y3⟩⟩
  · have e3 : p_cTyp_check_61 0 τ1 = jx_loop 100000000 c61 (nI 0, τ1) := rfl
    have e4 : p_r_countCases ρ1 = jx_loop 100000000 r2C (nI 0, ρ1) := rfl
    rw [y1, y2, e3]
    rcases ty_counts hE hF F 0 100000000 100000000 τ1 ρ1 (by omega) (by omega) (by omega) (by omega) y4 (fun g hg => absurd hg (by omega)) with ⟨τ2, ρ2, z1, z2, z3⟩ | ⟨τ2, ρ2, z1, z2, z3, z4, z5, z6, z7⟩
    · exact ⟨τ2, z1, Or.inr (Or.inl ⟨ρ1, ρ2, rfl, by rw [e4]; exact z2, TX_0 y3 z3⟩)⟩
    · refine ⟨τ2, z1, Or.inr (Or.inr ⟨ρ1, ρ2, rfl, by rw [e4]; exact z2, ?_, fun r hr => ?_, z4.trans y3.2.1, fun r hr => ?_, fun j h1 h2 => ?_, z6.trans y3.2.2.2.2.2.2.2⟩)⟩
      · obtain ⟨p1, p2, p3, p4, p5, p6, p7, p8⟩ := id y4
        refine ⟨⟨EnvC_keep p1 (z3 15 (by decide)) (z3 17 (by decide)) (by rw [z4]), EnvR_keep p2 (z5 107 (by decide)) (z5 108 (by decide)) (z5 109 (by decide)) (z5 110 (by decide)) (by rw [z5 106 (by decide)]), FD_keep p3 (fun r hr => z3 r (fun z => by subst z; revert hr; decide)) (fun r hr => z5 r (fun z => by subst z; revert hr; decide)), by rw [z3 4 (by decide)]; exact p4, by rw [z5 106 (by decide)]; exact p5, by rw [z3 1 (by decide)]; exact p6, by rw [z5 106 (by decide)]; exact p7, by rw [z3 29 (by decide)]; exact p8⟩, fun g hg => ⟨?_, by rw [z3 37 (by decide)]; exact (y5 g hg).1, fun k k1 k2 => ?_, z7 g hg⟩⟩
        · exact FunT_same (FunT_keep0 (hT g hg) y3) (fun r hr => z3 r (fun z => by subst z; revert hr; decide)) (fun r hr => z5 r (fun z => by subst z; revert hr; decide))
        · exact TyD_same ((y5 g hg).2 k k1 k2) (fun r hr => z3 r (fun z => by subst z; revert hr; decide)) (fun r hr => z5 r (fun z => by subst z; revert hr; decide))
      · simp only [List.mem_cons, List.not_mem_nil, or_false, not_or] at hr
        rw [z3 r hr.2.2, y3.1 r hr.2.1 hr.1]
      · simp only [List.mem_cons, List.not_mem_nil, or_false, not_or] at hr
        rw [z5 r hr.2.2.2.1, y3.2.2.2.2.2.2.1 r (by simp only [List.mem_cons, List.not_mem_nil, or_false, not_or]; omega)]
      · rw [z5 106 (by decide)]; exact y3.2.2.2.2.1 j h1 h2
