/-! RUNS, 29: in the midst of a tick: the heap has grown; the tick is closed. -/
theorem kid_ord {E : jEn} {G : jGh} {F : Nat} {nS pN bN lN' : Nat → Nat} {ty : Nat → Nat → Nat} {W : Nat → Nat} {D : Nat → jDs} {tk LO : Nat → Nat} {sl sp : Nat → Nat → Nat} {τ ρ : jx_S} {f c : Nat} (hFn : RFn E G F nS pN bN lN' ty W D tk LO sl sp τ ρ f) (hc1 : nS f ≤ c) (hc2 : c < nS (f + 1)) : (∀ i, i < dM (D c) → nS f ≤ dC (D c) i ∧ LO c ≤ LO (dC (D c) i) ∧ LO (dC (D c) i) ≤ dC (D c) i ∧ dC (D c) i < c) ∧ ∀ i j, i < j → j < dM (D c) → dC (D c) i < LO (dC (D c) j) := by
  have hN := hFn.2.2.2.2 c hc1 hc2
  obtain ⟨hA, _, _, _, _, _, _, _, _, _, ⟨l1, l2, l3, l4⟩, hkid, _⟩ := id hN
  have hcl : ∀ i, i < dM (D c) → nS f ≤ dC (D c) i ∧ LO c ≤ LO (dC (D c) i) ∧ LO (dC (D c) i) ≤ dC (D c) i ∧ dC (D c) i < c := fun i hi => by
    obtain ⟨z1, z2⟩ := kid_in hN hi
    have z3 := (hkid i hi).1
    have hN' := hFn.2.2.2.2 (dC (D c) i) (by omega) (by omega)
    exact ⟨by omega, z1, hN'.2.2.2.2.2.2.2.2.2.2.1.2.1, z2⟩
  refine ⟨hcl, ?_⟩
  have hord : ∀ n j, j + 1 + n < dM (D c) → dC (D c) j < LO (dC (D c) (j + 1 + n)) := by
    intro n j
    induction n with
    | zero =>
      intro hn
      have := (hkid (j + 1) (by omega)).2.1
      rw [if_neg (by omega), Nat.add_sub_cancel] at this
      rw [Nat.add_zero, this]; omega
    | succ n ihn =>
      intro hn
      have z1 := ihn (by omega)
      have z2 := (hcl (j + 1 + n) (by omega)).2.2.1
      have z3 := (hkid (j + 1 + (n + 1)) hn).2.1
      rw [if_neg (by omega), show j + 1 + (n + 1) - 1 = j + 1 + n by omega] at z3
      omega
  intro i j hij hj
  have := hord (j - i - 1) i (by omega)
  rw [show i + 1 + (j - i - 1) = j by omega] at this
  exact this
def CPC (τ τ' : jx_S) : Prop := (∀ r, r ∉ [8, 9, 89, 91, 93, 103, 105] → τ'.1 r = τ.1 r) ∧ (∀ j, j ≠ 14 → τ'.1 8 j = τ.1 8 j) ∧ (∀ j, j ∉ [11, 12, 15, 16] → τ'.1 9 j = τ.1 9 j) ∧ ∀ r, r ∉ [85, 87, 99, 101] → τ'.2 r = τ.2 r
def RPC (ρ ρ' : jx_S) : Prop := (∀ r, r ∉ [106, 151, 152, 153, 158, 159, 169, 170] → ρ'.1 r = ρ.1 r) ∧ (∀ j, j ∉ [67, 70, 74, 76, 87, 101] → ρ'.1 106 j = ρ.1 106 j) ∧ ∀ r, r ∉ [155, 156, 157, 160] → ρ'.2 r = ρ.2 r
theorem CPC_of {τ τ' : jx_S} (h : CPF τ τ') : CPC τ τ' := ⟨h.1, h.2.1, fun j hj => h.2.2.1 j (fun z => hj (by
  simp only [List.mem_cons, List.not_mem_nil, or_false] at z ⊢; omega)), fun r hr => h.2.2.2 r (fun z => hr (by
  simp only [List.mem_cons, List.not_mem_nil, or_false] at z ⊢; omega))⟩
theorem RPC_of {ρ ρ' : jx_S} (h : RPF ρ ρ') : RPC ρ ρ' := ⟨h.1, fun j hj => h.2.1 j (fun z => hj (by
  simp only [List.mem_cons, List.not_mem_nil, or_false] at z ⊢; omega)), fun r hr => h.2.2 r (fun z => hr (by
  simp only [List.mem_cons, List.not_mem_nil, or_false] at z ⊢; omega))⟩
def HQc (H H' : jHp) : Prop := H'.2.2.2.2.1 = H.2.2.2.2.1 ∧ H'.2.2.2.2.2.1 = H.2.2.2.2.2.1 ∧ (∀ i, i < jPn H → jPs H' i = jPs H i ∧ jPv H' i = jPv H i) ∧ (∀ i, jPn H ≤ i → i < jPn H' → jPs H' i = 0) ∧ jPn H ≤ jPn H'
theorem HQc_of {H H' : jHp} (h : HQ H H') : HQc H H' := ⟨h.2.1, h.2.2.1, h.2.2.2.1, h.2.2.2.2.1, h.2.2.2.2.2.1.2⟩
theorem HQc_f {H H' : jHp} (h : HQc H H') : jFn H' = jFn H ∧ jFb H' = jFb H ∧ jFf H' = jFf H ∧ jLb H' = jLb H ∧ jLv H' = jLv H ∧ jFe H' = jFe H := by
  unfold jFn jFb jFf jLb jLv jFe
  rw [h.1, h.2.1]
  exact ⟨rfl, rfl, rfl, rfl, rfl, rfl⟩
theorem sumN_zero {g : Nat → Nat} {a : Nat} : ∀ b, a ≤ b → (∀ i, a ≤ i → i < b → g i = 0) → sumN g b = sumN g a := by
  intro b
  induction b with
  | zero => intro h _; rw [show a = 0 by omega]
  | succ b ih =>
    intro h hz
    by_cases z : a = b + 1
    · rw [z]
    · have e : sumN g (b + 1) = sumN g b + g b := rfl
      rw [e, hz b (by omega) (by omega), ih (by omega) (fun i h1 h2 => hz i h1 (by omega)), Nat.add_zero]
theorem dn_same {H H' : jHp} (h : HQc H H') : dnN H' = dnN H := by
  obtain ⟨_, _, h3, h4, h5⟩ := h
  unfold dnN
  rw [sumN_zero (a := jPn H) (jPn H') h5 (fun i h1 h2 => by rw [h4 i h1 h2]; rfl)]
  exact sumN_congr _ (fun i hi => by rw [(h3 i hi).1])
theorem RU2_put {E : jEn} {G : jGh} {F : Nat} {nS pN bN lN' : Nat → Nat} {ty : Nat → Nat → Nat} {W : Nat → Nat} {D : Nat → jDs} {tk LO : Nat → Nat} {sl sp : Nat → Nat → Nat} {H H' : jHp} {S : jSt} {an : aV} {bt fc st lm go u u' lo hi q : Nat} {τ ρ τ' ρ' : jx_S} (h : RU2 E G F nS pN bN lN' ty W D tk LO sl sp H S u an bt fc st lm go τ ρ) (hd : 0 < jSd S) (c1 : CPC τ τ') (d1 : RPC ρ ρ') (x1 : HX H H') (x2 : HQc H H')
  (x3 : ∀ c ψ, ¬ (ψ = jSf S (jSd S - 1) ∧ lo ≤ c ∧ c ≤ hi) → jOw H' c ψ = jOw H c ψ) (hown : ∀ x, lo ≤ x → x ≤ hi → jOw H x (jSf S (jSd S - 1)) = 2 * (jSd S - 1) + 1) (hdis : ∀ i, u' ≤ i → i < dM (D (jSk S (jSd S - 1))) → hi < LO (dC (D (jSk S (jSd S - 1))) i)) (huu : u ≤ u') (hce : RCe H' τ' ρ') (hP : PO E G F nS pN bN lN' ty W D tk LO sl sp H' (jSf S (jSd S - 1)) (fun x => x < jAn H') q τ' ρ') : RU2 E G F nS pN bN lN' ty W D tk LO sl sp H' S u' an bt fc st lm go τ' ρ' := by
  obtain ⟨h1, ⟨hp, hc, hg, ho, hl⟩, ⟨⟨s1, s2, s3⟩, s4, s5⟩, ⟨k1, k2, k3, k4, k5, k6, k7, k8, k9⟩, hH, ⟨i1, it, i2, i3, i4⟩, h13⟩ := h
  obtain ⟨y1, y2, y3, y4, y5, ⟨y6, y7, y8, y9⟩, y10, y11⟩ := hP
  obtain ⟨eFn, eFb, eFf, eLb, eLv, eFe⟩ := HQc_f x2
  obtain ⟨c1, c2, c3, c4⟩ := c1
  obtain ⟨d1, d2, d3⟩ := d1
  have hgen : ∀ d, d < jSd S → (∀ z : d ≠ jSd S - 1, SE E G F nS pN bN lN' ty W D tk LO sl sp H S d) → (jOw H (jSk S d) (jSf S d) = 0 → jOw H' (jSk S d) (jSf S d) = 0) := fun d hd' _ q => by
    rw [x3 _ _ (fun z => by
      have := hown (jSk S d) z.2.1 z.2.2
      rw [z.1] at q
      omega)]
    exact q
  refine ⟨y1, ⟨RPu_an y2, hce, y3, y4, y5⟩, ⟨⟨?_, ?_, s3⟩, fun d hd' => ?_, fun d hd' => ?_⟩, ⟨y6, y7, ?_, ?_, ?_, ?_, ?_, ?_, ?_⟩, y10, ⟨fun d hd' => ?_, fun _ => ?_, fun d hd' => ?_, i3, i4⟩, ?_⟩
  · rw [c2 11 (by decide)]; exact s1
  · rw [d2 82 (by decide)]; exact s2
  · rw [c1 75 (by decide), d1 161 (by decide), c1 77 (by decide), d1 162 (by decide), d1 164 (by decide), eFb]; exact s4 d hd'
  · rw [c1 79 (by decide), d1 163 (by decide), c4 81 (by decide), d3 166 (by decide), d3 165 (by decide)]; exact s5 d hd'
  · rw [c1 71 (by decide), d2 88 (by decide)]; exact k3
  · rw [c2 12 (by decide), d2 89 (by decide)]; exact k4
  · rw [c1 71 (by decide), d2 83 (by decide)]; exact k5
  · rw [c1 71 (by decide), d2 91 (by decide), d2 92 (by decide)]; exact k6
  · rw [c2 13 (by decide), d2 86 (by decide)]; exact k7
  · rw [c1 71 (by decide)]; exact k8
  · rw [d2 93 (by decide), d2 95 (by decide), d2 96 (by decide)]; exact k9
  · obtain ⟨t1, t2, t3, t4, t5, t6, t7, t8, t9⟩ := i1 d hd'
    unfold SE
    rw [eFn, eFf, eLb]
    refine ⟨t1, t2, t3, hgen d (by omega) (fun _ => i1 d hd') t4, t5, fun i q1 q2 c q3 q4 => ?_, t7, fun q => ?_, fun j hj => VT_grow x1 (t9 j hj)⟩
    · have w := t6 i q1 q2 c q3 q4
      rw [x3 _ _ (fun z => by
        have := hown c z.2.1 z.2.2
        rw [z.1] at w
        omega)]
      exact w
    · obtain ⟨w1, w2, w3⟩ := t8 q
      refine ⟨by have := x2.2.2.2.2; omega, ?_, ?_⟩
      · rw [(x2.2.2.1 _ (by omega)).1]; exact w2
      · rw [(x1.1.2 _ (by omega)).1]; exact w3
  · obtain ⟨t1, t2, t3, t4, t5, t6, t7, t8, t9⟩ := it hd
    unfold SEu
    rw [eFn, eFf, eLb]
    refine ⟨t1, t2, t3, hgen (jSd S - 1) (by omega) (fun z => absurd rfl z) t4, t5, fun i q1 q2 c q3 q4 => ?_, t7, fun q => ?_, fun j hj => VT_grow x1 (t9 j hj)⟩
    · have w := t6 i (by omega) q2 c q3 q4
      have w2 := hdis i q1 q2
      rw [x3 _ _ (fun z => by omega)]
      exact w
    · obtain ⟨w1, w2, w3⟩ := t8 q
      refine ⟨by have := x2.2.2.2.2; omega, ?_, ?_⟩
      · rw [(x2.2.2.1 _ (by omega)).1]; exact w2
      · rw [(x1.1.2 _ (by omega)).1]; exact w3
  · unfold SW
    rw [eLv]
    exact i2 d hd'
  · rw [c3 13 (by decide), dn_same x2]; exact h13
/-- no room: the end, in both -/
theorem EN_put {E : jEn} {G : jGh} {F : Nat} {nS pN bN lN' : Nat → Nat} {ty : Nat → Nat → Nat} {W : Nat → Nat} {D : Nat → jDs} {tk LO : Nat → Nat} {sl sp : Nat → Nat → Nat} {H H' : jHp} {S : jSt} {an : aV} {bt fc st lm go u : Nat} {τ ρ τ' ρ' : jx_S} (h : RU2 E G F nS pN bN lN' ty W D tk LO sl sp H S u an bt fc st lm go τ ρ) (c1 : CPC τ τ') (d1 : RPC ρ ρ') (x2 : HQc H H') (hn : jPn H' ≤ 3000) (h5 : τ'.1 8 14 = 5) (h6 : ρ'.1 106 87 = 5) (hce : τ'.1 9 11 = ρ'.1 106 70) (hP : RPu H' 0 (0, 0) τ' ρ') : EN H' go τ' ρ' := by
  obtain ⟨h1, _, _, ⟨k1, k2, ⟨k3, k3a, _⟩, k4, ⟨dd, k5, k5a, k5b⟩, ⟨k6, k6a⟩, k7, k8, k9⟩, hH, _, h13⟩ := h
  obtain ⟨p1, p2, p3⟩ := hP
  obtain ⟨c1, c2, c3, c4⟩ := c1
  obtain ⟨d1, d2, d3⟩ := d1
  refine ⟨⟨5, by omega, by omega, h5, h6⟩, ⟨?_, ?_, ?_, ?_⟩, hce, ⟨hn, p1, p2, ?_, fun i hi => ?_⟩, ?_, ?_⟩
  · rw [c1 71 (by decide), d2 88 (by decide), k3, k3a]
  · rw [c1 71 (by decide), d2 83 (by decide), k5a, k5b]
  · rw [c1 71 (by decide), d2 91 (by decide)]; exact k6
  · rw [c1 71 (by decide), d2 92 (by decide)]; exact k6a
  · rw [c3 13 (by decide), dn_same x2]; exact h13
  · have := (p3 i hi).2.2.1.2
    rw [if_neg (by omega)] at this
    refine ⟨this, ?_⟩
    by_cases z : i < jPn H
    · rw [(x2.2.2.1 i z).1]; exact (hH.2.1.2 i z).2.2.1
    · rw [x2.2.2.2.1 i (by omega) hi]; omega
  · rw [c1 71 (by decide)]; exact k8
  · rw [d2 93 (by decide), d2 95 (by decide), d2 96 (by decide)]; exact k9
theorem EN_keep {H : jHp} {go : Nat} {τ ρ τ' ρ' : jx_S} (h : EN H go τ ρ) (c1 : τ'.1 8 14 = τ.1 8 14) (c2 : τ'.1 71 = τ.1 71) (c3 : τ'.1 9 = τ.1 9) (d1 : ρ'.1 = ρ.1) : EN H go τ' ρ' := by
  unfold EN at h ⊢
  rw [c1, c2, c3, d1]
  exact h
/-- the top's stage is set, with what it keeps -/
def sSetW (S : jSt) (sg : Nat) (w : Nat → aV) : jSt := (jSd S, jSk S, jSf S, fun d => if d = jSd S - 1 then sg else jSg S d, jSl S, fun d j => if d = jSd S - 1 then w j else jSw S d j)
theorem RU0_close {E : jEn} {G : jGh} {F : Nat} {nS pN bN lN' : Nat → Nat} {ty : Nat → Nat → Nat} {W : Nat → Nat} {D : Nat → jDs} {tk LO : Nat → Nat} {sl sp : Nat → Nat → Nat} {H : jHp} {S : jSt} {an : aV} {bt fc st lm go u sg : Nat} {τ ρ : jx_S} {w : Nat → aV} (h : RU2 E G F nS pN bN lN' ty W D tk LO sl sp H S u an bt fc st lm go τ ρ) (hd : 0 < jSd S)
  (c79 : τ.1 79 (jSd S - 1) = nI sg) (r163 : ρ.1 163 (jSd S - 1) = nI (rstg (dK (D (jSk S (jSd S - 1)))) sg)) (r85 : ρ.1 106 85 = nI (sumN (keptS D S) (jSd S - 1) + kept (dK (D (jSk S (jSd S - 1)))) sg))
  (hw : ∀ j, j < kept (dK (D (jSk S (jSd S - 1)))) sg → τ.2 81 (8 * (jSd S - 1) + j) = cV (w j) ∧ ρ.2 166 (sumN (keptS D S) (jSd S - 1) + j) = rV (w j) ∧ VT F pN bN ty W H (ty (dG (D (jSk S (jSd S - 1)))) j) (w j))
  (h2 : dK (D (jSk S (jSd S - 1))) < 28 → sg = 2 → τ.2 81 (8 * (jSd S - 1)) = cV (w 0) ∧ ρ.2 165 (jSd S - 1) = rV (w 0)) (hst : stgOK (dK (D (jSk S (jSd S - 1)))) (dM (D (jSk S (jSd S - 1)))) sg) (hun : u ≤ unus (dK (D (jSk S (jSd S - 1)))) (dM (D (jSk S (jSd S - 1)))) sg) (hbd : sg < 2 → jSg S (jSd S - 1) < 2) : RU0 E G F nS pN bN lN' ty W D tk LO sl sp H (sSetW S sg w) 0 an bt fc st lm go τ ρ := by
  obtain ⟨h1, hp, ⟨⟨s1, s2, s3⟩, s4, s5⟩, hk, hH, ⟨i1, it, i2, i3, i4⟩, h13⟩ := h
  have eg : ∀ d, d ≠ jSd S - 1 → jSg (sSetW S sg w) d = jSg S d := fun d z => if_neg z
  have egt : jSg (sSetW S sg w) (jSd S - 1) = sg := if_pos rfl
  have ew : ∀ d, d ≠ jSd S - 1 → jSw (sSetW S sg w) d = jSw S d := fun d z => by
    funext j
    exact if_neg z
  have ewt : jSw (sSetW S sg w) (jSd S - 1) = w := by
    funext j
    exact if_pos rfl
  have hkp : ∀ d, d ≠ jSd S - 1 → keptS D (sSetW S sg w) d = keptS D S d := fun d z => by
    unfold keptS
    rw [eg d z]; rfl
  have hkt : keptS D (sSetW S sg w) (jSd S - 1) = kept (dK (D (jSk S (jSd S - 1)))) sg := by
    unfold keptS
    rw [egt]; rfl
  have hsum : ∀ d, d ≤ jSd S - 1 → sumN (keptS D (sSetW S sg w)) d = sumN (keptS D S) d := fun d hd' => sumN_congr d (fun i hi => hkp i (by omega))
  have hsumt : sumN (keptS D (sSetW S sg w)) (jSd S) = sumN (keptS D S) (jSd S - 1) + kept (dK (D (jSk S (jSd S - 1)))) sg := by
    have e : sumN (keptS D (sSetW S sg w)) (jSd S - 1 + 1) = sumN (keptS D (sSetW S sg w)) (jSd S - 1) + keptS D (sSetW S sg w) (jSd S - 1) := rfl
    rw [show jSd S - 1 + 1 = jSd S by omega, hkt, hsum _ (Nat.le_refl _)] at e
    exact e
  refine ⟨h1, hp, ⟨⟨s1, s2, s3⟩, ?_, fun d hd' => ?_⟩, hk, hH, ⟨fun d hd' => ?_, fun d hd' => ?_, i3, i4⟩, h13⟩
  · show _ = nI (sumN (keptS D (sSetW S sg w)) (jSd S))
    rw [hsumt]; exact r85
  · have hd2 : d < jSd S := hd'
    obtain ⟨t1, t2, t4⟩ := s4 d hd2
    by_cases z : d = jSd S - 1
    · subst z
      rw [egt, ewt, hkt, hsum _ (Nat.le_refl _)]
      exact ⟨t1, t2, ⟨c79, r163⟩, t4, fun j hj => ⟨(hw j hj).1, (hw j hj).2.1⟩, h2⟩
    · rw [eg d z, ew d z, hkp d z, hsum d (by omega)]
      obtain ⟨t3, t5, t6⟩ := s5 d (by omega)
      exact ⟨t1, t2, t3, t4, t5, t6⟩
  · have hd2 : d < jSd S := hd'
    by_cases z : d = jSd S - 1
    · subst z
      obtain ⟨t1, t2, t3, t4, t5, t6, t7, t8, t9⟩ := it hd
      unfold SE
      rw [egt, ewt, hkt]
      exact ⟨t1, t2, t3, t4, hst, fun i q1 => t6 i (Nat.le_trans hun q1), fun q => t7 (hbd q), t8, fun j hj => (hw j hj).2.2⟩
    · have hse := i1 d (by omega)
      unfold SE at hse ⊢
      rw [eg d z, ew d z, hkp d z]
      exact hse
  · have hd2 : d + 1 < jSd S := hd'
    have hi2 := i2 d hd2
    unfold SW at hi2 ⊢
    rw [eg d (by omega)]
    exact hi2
