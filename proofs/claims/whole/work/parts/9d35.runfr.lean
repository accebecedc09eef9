/-! RUNS, 35: a function is called: a new frame. -/
def hFr (H : jHp) (g l p : Nat) (v : Nat → aV) : jHp := (H.1, H.2.1, H.2.2.1, H.2.2.2.1, (jFn H + 1, fun φ => if φ = jFn H then jFe H else jFb H φ, fun φ => if φ = jFn H then g else jFf H φ, jFe H + l), (fun φ s => if φ = jFn H then v s else jLv H φ s, fun φ s => (φ = jFn H ∧ s < p) ∨ (φ ≠ jFn H ∧ jLb H φ s)), fun x ψ => if ψ = jFn H then 1 else jOw H x ψ)
theorem RU0_fr {E : jEn} {G : jGh} {F : Nat} {nS pN bN lN' : Nat → Nat} {ty : Nat → Nat → Nat} {W : Nat → Nat} {D : Nat → jDs} {tk LO : Nat → Nat} {sl sp : Nat → Nat → Nat} {H : jHp} {S : jSt} {an : aV} {bt fc st lm go g : Nat} {v : Nat → aV} {τ ρ τ' ρ' : jx_S} (h : RU0 E G F nS pN bN lN' ty W D tk LO sl sp H S 0 an bt fc st lm go τ ρ) (hg : g < F) (hroom : jFe H + lN' g ≤ 30000) (hv : ∀ s, s < pN g → VT F pN bN ty W H (ty g s) (v s))
  (c1 : ∀ r, r ≠ 9 → r ≠ 71 → τ'.1 r = τ.1 r) (c2 : ∀ j, j ≠ 14 → τ'.1 9 j = τ.1 9 j) (c2a : τ'.1 9 14 = nI (jFe H + lN' g)) (c3 : ∀ j, j ≠ 8 → τ'.1 71 j = τ.1 71 j) (c3a : τ'.1 71 8 = τ.1 71 8 + 1) (c4 : ∀ r, r ≠ 97 → r ≠ 83 → τ'.2 r = τ.2 r) (c5 : ∀ j, j < jFe H → τ'.2 97 j = τ.2 97 j) (c6 : ∀ s, s < pN g → τ'.2 97 (jFe H + s) = cV (v s))
  (d1 : ∀ r, r ≠ 106 → ρ'.1 r = ρ.1 r) (d2 : ∀ j, j ≠ 62 → j ≠ 91 → ρ'.1 106 j = ρ.1 106 j) (d2a : ρ'.1 106 62 = nI (jFe H + lN' g)) (d2b : ρ'.1 106 91 = ρ.1 106 91 + 1) (d3 : ∀ r, r ≠ 150 → ρ'.2 r = ρ.2 r) (d4 : ∀ j, j < jFe H → ρ'.2 150 j = ρ.2 150 j) (d5 : ∀ s, s < pN g → ρ'.2 150 (jFe H + s) = rV (v s)) :
  RU0 E G F nS pN bN lN' ty W D tk LO sl sp (hFr H g (lN' g) (pN g) v) S 0 an bt fc st lm go τ' ρ' := by
  obtain ⟨h1, ⟨⟨p1, p2, p3⟩, ⟨e1, e2, e3⟩, ⟨g1, g2, g3⟩, ⟨o1, o2, o3⟩, l1, l2, l3⟩, ⟨⟨s1, s2, s3⟩, s4, s5⟩, ⟨k1, k2, k3, k4, k5, k6, k7, k8, k9⟩, ⟨f1, ⟨q1, q2⟩, ⟨f3, f3a⟩, f4, f5⟩, ⟨i1, i2, i3, i4⟩, h13⟩ := h
  have hFb : ∀ φ, φ < jFn H → jFb (hFr H g (lN' g) (pN g) v) φ = jFb H φ := fun φ hφ => if_neg (by omega)
  have hFf : ∀ φ, φ < jFn H → jFf (hFr H g (lN' g) (pN g) v) φ = jFf H φ := fun φ hφ => if_neg (by omega)
  have hLv : ∀ φ s, φ < jFn H → jLv (hFr H g (lN' g) (pN g) v) φ s = jLv H φ s := fun φ s hφ => if_neg (by omega)
  have hOw : ∀ x φ, φ < jFn H → jOw (hFr H g (lN' g) (pN g) v) x φ = jOw H x φ := fun x φ hφ => if_neg (by omega)
  have hLb : ∀ φ s, φ < jFn H → jLb H φ s → jLb (hFr H g (lN' g) (pN g) v) φ s := fun φ s hφ q => Or.inr ⟨by omega, q⟩
  have hLb' : ∀ φ s, φ < jFn H → jLb (hFr H g (lN' g) (pN g) v) φ s → jLb H φ s := fun φ s hφ q => by
    rcases q with q | q
    · omega
    · exact q.2
  have hFbn : jFb (hFr H g (lN' g) (pN g) v) (jFn H) = jFe H := if_pos rfl
  have hFfn : jFf (hFr H g (lN' g) (pN g) v) (jFn H) = g := if_pos rfl
  have hLvn : ∀ s, jLv (hFr H g (lN' g) (pN g) v) (jFn H) s = v s := fun s => if_pos rfl
  have hLbn : ∀ s, jLb (hFr H g (lN' g) (pN g) v) (jFn H) s → s < pN g := fun s q => by
    rcases q with q | q
    · exact q.2
    · exact absurd rfl q.1
  have hRP : RP E G F nS pN bN lN' ty W D tk LO sl sp τ' ρ' := RP_keep h1 (fun r hr => c1 r (by revert hr; revert r; decide) (by revert hr; revert r; decide)) (c4 19 (by decide) (by decide)) (fun r hr => d1 r (by revert hr; revert r; decide))
  refine ⟨hRP, ⟨⟨?_, ?_, fun i hi => ?_⟩, ⟨?_, ?_, fun x hx => ?_⟩, ⟨?_, ?_, fun p hp => ?_⟩, ⟨?_, ?_, fun x hx hgg => ?_⟩, ?_, ?_, fun φ hφ s hs hb => ?_⟩, ⟨⟨?_, ?_, s3⟩, ?_, fun d hd => ?_⟩, ⟨?_, ?_, ?_, ?_, ?_, ⟨?_, ?_⟩, ?_, ⟨?_, ?_, ?_⟩, ?_⟩, ⟨⟨?_, fun φ hφ => ?_⟩, ⟨q1, fun i hi => ?_⟩, ⟨fun φ hφ s hs hb => ?_, fun φ hφ k hk1 hk2 hk s hs => ?_⟩, f4, f5⟩, ⟨fun d hd => ?_, fun d hd => ?_, i3, i4⟩, ?_⟩
  · rw [c2 12 (by decide)]; exact p1
  · rw [d2 67 (by decide) (by decide)]; exact p2
  · have hb := hFb (jPf H i) (q2 i hi).1.1
    rw [show jFb (hFr H g (lN' g) (pN g) v) (jPf (hFr H g (lN' g) (pN g) v) i) = jFb H (jPf H i) from hb, c1 89 (by decide) (by decide), d1 151 (by decide), c1 91 (by decide) (by decide), d1 152 (by decide), c1 93 (by decide) (by decide), d1 153 (by decide), c4 95 (by decide) (by decide), d3 154 (by decide)]
    exact p3 i hi
  · rw [c2 11 (by decide)]; exact e1
  · rw [d2 70 (by decide) (by decide)]; exact e2
  · rw [c4 85 (by decide) (by decide), c4 87 (by decide) (by decide), d3 155 (by decide), d3 156 (by decide)]; exact e3 x hx
  · rw [c2 16 (by decide)]; exact g1
  · rw [d2 74 (by decide) (by decide)]; exact g2
  · rw [c4 101 (by decide) (by decide), d3 157 (by decide), c1 103 (by decide) (by decide), d1 158 (by decide), c1 105 (by decide) (by decide), d1 159 (by decide)]; exact g3 p hp
  · rw [c2 15 (by decide)]; exact o1
  · rw [d2 76 (by decide) (by decide)]; exact o2
  · rw [c4 99 (by decide) (by decide), d3 160 (by decide)]; exact o3 x hx hgg
  · exact c2a
  · exact d2a
  · have hφ' : φ < jFn H + 1 := hφ
    by_cases z : φ = jFn H
    · subst z
      have := hLbn s hb
      rw [hFbn, hLvn]
      exact ⟨c6 s this, d5 s this⟩
    · have hφ2 : φ < jFn H := by omega
      rw [hFf φ hφ2] at hs
      have hb2 := hLb' φ s hφ2 hb
      have hin := (f1.2 φ hφ2).2.1
      rw [hFb φ hφ2, hLv φ s hφ2, c5 _ (by omega), d4 _ (by omega)]
      exact l3 φ hφ2 s hs hb2
  · rw [c1 8 (by decide) (by decide)]; exact s1
  · rw [d2 82 (by decide) (by decide)]; exact s2
  · rw [d2 85 (by decide) (by decide)]; exact s4
  · rw [hFb (jSf S d) (i1 d hd).1.1, c1 75 (by decide) (by decide), d1 161 (by decide), c1 77 (by decide) (by decide), d1 162 (by decide), c1 79 (by decide) (by decide), d1 163 (by decide), d1 164 (by decide), c4 81 (by decide) (by decide), d3 166 (by decide), d3 165 (by decide)]
    exact s5 d hd
  · rw [c1 8 (by decide) (by decide)]; exact k1
  · rw [d2 87 (by decide) (by decide)]; exact k2
  · rw [c3 0 (by decide), d2 88 (by decide) (by decide)]; exact k3
  · rw [c1 8 (by decide) (by decide), d2 89 (by decide) (by decide)]; exact k4
  · rw [c3 4 (by decide), d2 83 (by decide) (by decide)]; exact k5
  · rw [c3a, d2b, k6.1]
  · rw [c3 9 (by decide), d2 92 (by decide) (by decide)]; exact k6.2
  · rw [c1 8 (by decide) (by decide), d2 86 (by decide) (by decide)]; exact k7
  · rw [c3 5 (by decide)]; exact k8.1
  · rw [c3 6 (by decide)]; exact k8.2.1
  · rw [c3 7 (by decide)]; exact k8.2.2
  · rw [d2 93 (by decide) (by decide), d2 95 (by decide) (by decide), d2 96 (by decide) (by decide)]; exact k9
  · exact hroom
  · have hφ' : φ < jFn H + 1 := hφ
    have hfe : jFe (hFr H g (lN' g) (pN g) v) = jFe H + lN' g := rfl
    rw [hfe]
    by_cases z : φ = jFn H
    · subst z
      rw [hFfn, hFbn]
      refine ⟨hg, Nat.le_refl _, fun ψ hψ => ?_⟩
      rw [hFb ψ hψ, hFf ψ hψ]
      exact (f1.2 ψ hψ).2.1
    · have hφ2 : φ < jFn H := by omega
      obtain ⟨a1, a2, a3⟩ := f1.2 φ hφ2
      rw [hFf φ hφ2, hFb φ hφ2]
      refine ⟨a1, by omega, fun ψ hψ => ?_⟩
      rw [hFb ψ (by omega), hFf ψ (by omega)]
      exact a3 ψ hψ
  · obtain ⟨u1, u2, u3, u4, u5, u6, u7⟩ := q2 i hi
    have hf := hFf (jPf H i) u1.1
    refine ⟨⟨show jPf H i < jFn H + 1 by have := u1.1; omega, ?_, ?_⟩, u2, u3, fun s q => hLb _ s u1.1 (u4 s q), fun q c a1 a2 => ?_, u6, u7⟩
    · show nS (jFf (hFr H g (lN' g) (pN g) v) (jPf H i)) ≤ jPk H i
      rw [hf]; exact u1.2.1
    · show jPk H i < nS (jFf (hFr H g (lN' g) (pN g) v) (jPf H i) + 1)
      rw [hf]; exact u1.2.2
    · show jOw (hFr H g (lN' g) (pN g) v) c (jPf H i) = 2 * i + 2
      rw [hOw c _ u1.1]; exact u5 q c a1 a2
  · have hφ' : φ < jFn H + 1 := hφ
    by_cases z : φ = jFn H
    · subst z
      rw [hFfn, hLvn]
      exact hv s (hLbn s hb)
    · have hφ2 : φ < jFn H := by omega
      rw [hFf φ hφ2] at hs ⊢
      rw [hLv φ s hφ2]
      exact f3 φ hφ2 s hs (hLb' φ s hφ2 hb)
  · have hφ' : φ < jFn H + 1 := hφ
    by_cases z : φ = jFn H
    · subst z
      rw [hFfn] at hk1 hk2
      have := (((h1.2.2 g hg).2.2.2.2 k hk1 hk2).2.2.2.2.2.2.2.2.2.2.2.2 s hs).1
      intro q
      have := hLbn s q
      omega
    · have hφ2 : φ < jFn H := by omega
      rw [hFf φ hφ2] at hk1 hk2
      rw [hOw k φ hφ2] at hk
      exact fun q => f3a φ hφ2 k hk1 hk2 hk s hs (hLb' φ s hφ2 q)
  · obtain ⟨t1, t2, t3, t4, t5, t6, t7, t8, t9⟩ := i1 d hd
    have hf := hFf (jSf S d) t1.1
    unfold SE
    rw [hf, hOw _ _ t1.1]
    refine ⟨⟨show jSf S d < jFn H + 1 by have := t1.1; omega, t1.2⟩, t2, fun s q => hLb _ s t1.1 (t3 s q), t4, t5, fun i a1 a2 c a3 a4 => by rw [hOw _ _ t1.1]; exact t6 i a1 a2 c a3 a4, fun q s hs hb => t7 q s hs (hLb' _ s t1.1 hb), t8, t9⟩
  · have hi2 := i2 d hd
    unfold SW at hi2 ⊢
    rw [hLv _ _ (i1 d (by omega)).1.1]
    exact hi2
  · rw [c2 13 (by decide)]; exact h13
/-- the function's expression begins -/
theorem beg_fun {E : jEn} {G : jGh} {F : Nat} {nS pN bN lN' : Nat → Nat} {ty : Nat → Nat → Nat} {W : Nat → Nat} {D : Nat → jDs} {tk LO : Nat → Nat} {sl sp : Nat → Nat → Nat} {H : jHp} {S : jSt} {an : aV} {bt fc st lm go g : Nat} {v : Nat → aV} {τ ρ τ' ρ' : jx_S} (h : RU0 E G F nS pN bN lN' ty W D tk LO sl sp H S 0 an bt fc st lm go τ ρ) (hz : BZ H S 0) (hg : g < F) (hroom : jFe H + lN' g ≤ 30000) (hv : ∀ s, s < pN g → VT F pN bN ty W H (ty g s) (v s))
  (c1 : ∀ r, r ≠ 9 → r ≠ 71 → τ'.1 r = τ.1 r) (c2 : ∀ j, j ≠ 14 → τ'.1 9 j = τ.1 9 j) (c2a : τ'.1 9 14 = nI (jFe H + lN' g)) (c3 : ∀ j, j ≠ 8 → τ'.1 71 j = τ.1 71 j) (c3a : τ'.1 71 8 = τ.1 71 8 + 1) (c4 : ∀ r, r ≠ 97 → r ≠ 83 → τ'.2 r = τ.2 r) (c5 : ∀ j, j < jFe H → τ'.2 97 j = τ.2 97 j) (c6 : ∀ s, s < pN g → τ'.2 97 (jFe H + s) = cV (v s))
  (d1 : ∀ r, r ≠ 106 → ρ'.1 r = ρ.1 r) (d2 : ∀ j, j ≠ 62 → j ≠ 91 → ρ'.1 106 j = ρ.1 106 j) (d2a : ρ'.1 106 62 = nI (jFe H + lN' g)) (d2b : ρ'.1 106 91 = ρ.1 106 91 + 1) (d3 : ∀ r, r ≠ 150 → ρ'.2 r = ρ.2 r) (d4 : ∀ j, j < jFe H → ρ'.2 150 j = ρ.2 150 j) (d5 : ∀ s, s < pN g → ρ'.2 150 (jFe H + s) = rV (v s))
  (hw : 0 < jSd S → SW W D H S (jSd S - 1) 0 ∧ bN g = xtyp W D (jSk S (jSd S - 1)) (jSg S (jSd S - 1))) (hw0 : jSd S = 0 → bN g = bt ∧ 0 = fc) : ∃ τ2 ρ2, p_cMac_begin (nI (nS (g + 1))) (nI (jFe H)) τ' = some τ2 ∧ p_r_begin (nI (nS (g + 1) - 1)) (nI (jFe H)) (-1) ρ' = some ρ2 ∧ ((∃ H', EN H' go τ2 ρ2) ∨ ∃ H' S' an', RUN E G F nS pN bN lN' ty W D tk LO sl sp H' S' 0 an' bt fc (st + 1) lm go τ2 ρ2 ∧ mea S' (st + 1) lm = mea S st lm) := by
  have hR := RU0_fr h hg hroom hv c1 c2 c2a c3 c3a c4 c5 c6 d1 d2 d2a d2b d3 d4 d5
  obtain ⟨h1, _, _, _, hH, ⟨i1, i2, _⟩, _⟩ := id h
  obtain ⟨⟨a1, a2, a3, a4, a5⟩, ⟨_, _, _, _, a6⟩, _⟩ := h1.2.2 g hg
  have hFfn : jFf (hFr H g (lN' g) (pN g) v) (jFn H) = g := if_pos rfl
  have hFbn : jFb (hFr H g (lN' g) (pN g) v) (jFn H) = jFe H := if_pos rfl
  have hz' : BZ (hFr H g (lN' g) (pN g) v) S 0 := hz
  obtain ⟨τ2, ρ2, r1, r2, r3⟩ := run_beg (l := 0) (o := 1) (c := nS (g + 1) - 1) (φ := jFn H) hR hz' (Nat.lt_succ_self _) (by rw [hFfn]; omega) (by rw [hFfn]; omega) (by omega) (fun s q => Or.inl ⟨rfl, a6 s q⟩) (by omega) (fun x _ _ => if_pos rfl) (fun d hd' i' _ _ x _ _ q => by
      have := (i1 d hd').1.1
      have q1 : jSf S d = jFn H := q.1
      omega) (fun j hj _ x _ _ q => by
      have := (hH.2.1.2 j hj).1.1
      have q1 : jPf H j = jFn H := q.1
      omega) (fun hd' => by
      obtain ⟨w1, w2⟩ := hw hd'
      refine ⟨?_, by rw [a3]; exact w2⟩
      unfold SW at w1 ⊢
      rw [show jLv (hFr H g (lN' g) (pN g) v) (jSf S (jSd S - 1)) (dS (D (jSk S (jSd S - 1)))) = jLv H (jSf S (jSd S - 1)) (dS (D (jSk S (jSd S - 1)))) from if_neg (by have := (i1 (jSd S - 1) (by omega)).1.1; omega)]
      exact w1) (fun q => by rw [a3]; exact hw0 q) (fun q => absurd rfl q)
  rw [if_pos rfl, hFbn] at r2
  rw [hFbn, show nS (g + 1) - 1 + 1 = nS (g + 1) by omega] at r1
  refine ⟨τ2, ρ2, r1, r2, ?_⟩
  rcases r3 with r3 | ⟨r3, r4⟩
  · exact Or.inl ⟨_, r3⟩
  · exact Or.inr ⟨_, _, an, r4, mea_push r3⟩
