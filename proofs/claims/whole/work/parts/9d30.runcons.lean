/-! RUNS, 30: in the midst of a tick a part is put off. -/
theorem PO_of2 {E : jEn} {G : jGh} {F : Nat} {nS pN bN lN' : Nat → Nat} {ty : Nat → Nat → Nat} {W : Nat → Nat} {D : Nat → jDs} {tk LO : Nat → Nat} {sl sp : Nat → Nat → Nat} {H : jHp} {S : jSt} {an : aV} {bt fc st lm go u : Nat} {τ ρ : jx_S} (h : RU2 E G F nS pN bN lN' ty W D tk LO sl sp H S u an bt fc st lm go τ ρ) (hd : 0 < jSd S) : PO E G F nS pN bN lN' ty W D tk LO sl sp H (jSf S (jSd S - 1)) (fun x => x < jAn H) 0 τ (jx_i ρ 106 101 (nI 0)) := by
  obtain ⟨h1, ⟨hp, hc, hg, ho, hl⟩, ⟨⟨s1, s2, s3⟩, s4, s5⟩, hk, hH, _, _⟩ := h
  obtain ⟨_, t2, _⟩ := s4 (jSd S - 1) (by omega)
  have e2 : v_cMac_frame τ = nI (jFb H (jSf S (jSd S - 1))) := by
    unfold v_cMac_frame
    rw [show τ.1 8 11 - 1 = nI (jSd S - 1) by rw [s1]; exact nI_sub (b := 1) (by omega), jI_at_in (by omega) (by omega), t2.1]
  refine ⟨RP_f h1 CPF_refl RPF_q, ?_, ?_, ?_, ?_, ⟨hk.1, by simp (disch := first | assumption | decide | omega) only [nI_lit, cT_lt, cF_lt, cT_le, cF_le, cT_eq, cF_eq, nF_le, mF_eq, mG_eq, mT_lt, eq_self, nI_clamp, nI_add, Nat.add_zero, nI_sub, s_i_ne, s_i_eq, s_i_2, s_l_1, s_l_ne, s_l_eq, s_p_ne, s_p_eq, s_p_2, s_q_1, s_q_ne, s_q_eq, u_ne, u_eq, v_ne, v_eq, w_ne, w_eq, jI_at_in, jL_at_in, false_or, or_false, true_or, or_true, true_and, and_true, false_and, and_false, not_true_eq_false, not_false_eq_true, ↓reduceIte, Option.bind_some, Option.map_some]; exact hk.2.1, e2, by simp (disch := first | assumption | decide | omega) only [nI_lit, cT_lt, cF_lt, cT_le, cF_le, cT_eq, cF_eq, nF_le, mF_eq, mG_eq, mT_lt, eq_self, nI_clamp, nI_add, Nat.add_zero, nI_sub, s_i_ne, s_i_eq, s_i_2, s_l_1, s_l_ne, s_l_eq, s_p_ne, s_p_eq, s_p_2, s_q_1, s_q_ne, s_q_eq, u_ne, u_eq, v_ne, v_eq, w_ne, w_eq, jI_at_in, jL_at_in, false_or, or_false, true_or, or_true, true_and, and_true, false_and, and_false, not_true_eq_false, not_false_eq_true, ↓reduceIte, Option.bind_some, Option.map_some]⟩, hH, fun a q => q⟩
  · have := RPu_an (b := (0, 0)) hp
    unfold RPu at this ⊢; simp (disch := first | assumption | decide | omega) only [nI_lit, cT_lt, cF_lt, cT_le, cF_le, cT_eq, cF_eq, nF_le, mF_eq, mG_eq, mT_lt, eq_self, nI_clamp, nI_add, Nat.add_zero, nI_sub, s_i_ne, s_i_eq, s_i_2, s_l_1, s_l_ne, s_l_eq, s_p_ne, s_p_eq, s_p_2, s_q_1, s_q_ne, s_q_eq, u_ne, u_eq, v_ne, v_eq, w_ne, w_eq, jI_at_in, jL_at_in, false_or, or_false, true_or, or_true, true_and, and_true, false_and, and_false, not_true_eq_false, not_false_eq_true, ↓reduceIte, Option.bind_some, Option.map_some]; exact this
  · unfold RPa at hg ⊢; simp (disch := first | assumption | decide | omega) only [nI_lit, cT_lt, cF_lt, cT_le, cF_le, cT_eq, cF_eq, nF_le, mF_eq, mG_eq, mT_lt, eq_self, nI_clamp, nI_add, Nat.add_zero, nI_sub, s_i_ne, s_i_eq, s_i_2, s_l_1, s_l_ne, s_l_eq, s_p_ne, s_p_eq, s_p_2, s_q_1, s_q_ne, s_q_eq, u_ne, u_eq, v_ne, v_eq, w_ne, w_eq, jI_at_in, jL_at_in, false_or, or_false, true_or, or_true, true_and, and_true, false_and, and_false, not_true_eq_false, not_false_eq_true, ↓reduceIte, Option.bind_some, Option.map_some]; exact hg
  · unfold RGo at ho ⊢; simp (disch := first | assumption | decide | omega) only [nI_lit, cT_lt, cF_lt, cT_le, cF_le, cT_eq, cF_eq, nF_le, mF_eq, mG_eq, mT_lt, eq_self, nI_clamp, nI_add, Nat.add_zero, nI_sub, s_i_ne, s_i_eq, s_i_2, s_l_1, s_l_ne, s_l_eq, s_p_ne, s_p_eq, s_p_2, s_q_1, s_q_ne, s_q_eq, u_ne, u_eq, v_ne, v_eq, w_ne, w_eq, jI_at_in, jL_at_in, false_or, or_false, true_or, or_true, true_and, and_true, false_and, and_false, not_true_eq_false, not_false_eq_true, ↓reduceIte, Option.bind_some, Option.map_some]; exact ho
  · unfold RLo at hl ⊢; simp (disch := first | assumption | decide | omega) only [nI_lit, cT_lt, cF_lt, cT_le, cF_le, cT_eq, cF_eq, nF_le, mF_eq, mG_eq, mT_lt, eq_self, nI_clamp, nI_add, Nat.add_zero, nI_sub, s_i_ne, s_i_eq, s_i_2, s_l_1, s_l_ne, s_l_eq, s_p_ne, s_p_eq, s_p_2, s_q_1, s_q_ne, s_q_eq, u_ne, u_eq, v_ne, v_eq, w_ne, w_eq, jI_at_in, jL_at_in, false_or, or_false, true_or, or_true, true_and, and_true, false_and, and_false, not_true_eq_false, not_false_eq_true, ↓reduceIte, Option.bind_some, Option.map_some]; exact hl
theorem PO_cel {E : jEn} {G : jGh} {F : Nat} {nS pN bN lN' : Nat → Nat} {ty : Nat → Nat → Nat} {W : Nat → Nat} {D : Nat → jDs} {tk LO : Nat → Nat} {sl sp : Nat → Nat → Nat} {H : jHp} {φ q : Nat} {gd : Nat → Prop} {τ ρ τ' ρ' : jx_S} (h : PO E G F nS pN bN lN' ty W D tk LO sl sp H φ gd q τ ρ) (c1 : ∀ r, r ≠ 9 → τ'.1 r = τ.1 r) (c2 : ∀ j, j ≠ 11 → τ'.1 9 j = τ.1 9 j) (c3 : ∀ r, r ≠ 85 → r ≠ 87 → τ'.2 r = τ.2 r) (d1 : ∀ r, r ≠ 106 → ρ'.1 r = ρ.1 r) (d2 : ∀ j, j ≠ 70 → ρ'.1 106 j = ρ.1 106 j) (d3 : ∀ r, r ≠ 155 → r ≠ 156 → ρ'.2 r = ρ.2 r) : PO E G F nS pN bN lN' ty W D tk LO sl sp H φ gd q τ' ρ' := by
  obtain ⟨h1, h2, h3, h4, h5, ⟨h6, h7, h8, h9⟩, h10, h11⟩ := h
  refine ⟨RP_keep h1 (fun r hr => c1 r (by revert hr; revert r; decide)) (c3 19 (by decide) (by decide)) (fun r hr => d1 r (by revert hr; revert r; decide)), ?_, ?_, ?_, ?_, ⟨?_, ?_, ?_, ?_⟩, h10, h11⟩
  · unfold RPu at h2 ⊢
    rw [c2 12 (by decide), d2 67 (by decide), c1 89 (by decide), d1 151 (by decide), c1 91 (by decide), d1 152 (by decide), c1 93 (by decide), d1 153 (by decide), c3 95 (by decide) (by decide), d3 154 (by decide) (by decide)]; exact h2
  · unfold RPa at h3 ⊢
    rw [c2 16 (by decide), d2 74 (by decide), c3 101 (by decide) (by decide), d3 157 (by decide) (by decide), c1 103 (by decide), d1 158 (by decide), c1 105 (by decide), d1 159 (by decide)]; exact h3
  · unfold RGo at h4 ⊢
    rw [c2 15 (by decide), d2 76 (by decide), c3 99 (by decide) (by decide), d3 160 (by decide) (by decide)]; exact h4
  · unfold RLo at h5 ⊢
    rw [c2 14 (by decide), d2 62 (by decide), c3 97 (by decide) (by decide), d3 150 (by decide) (by decide)]; exact h5
  · rw [c1 8 (by decide)]; exact h6
  · rw [d2 87 (by decide)]; exact h7
  · unfold v_cMac_frame at h8 ⊢
    rw [c1 8 (by decide), c1 77 (by decide)]; exact h8
  · rw [d2 101 (by decide)]; exact h9
/-- a new cell -/
def hCell (H : jHp) (a b : aV) : jHp := (H.1, (jCn H + 1, fun c => if c = jCn H then a else jCf H c, fun c => if c = jCn H then b else jCs H c), H.2.2)
theorem HX_cell {H : jHp} {a b : aV} : HX H (hCell H a b) := ⟨⟨Nat.le_refl _, fun _ _ => ⟨rfl, rfl⟩⟩, Nat.le_succ _, Nat.le_refl _, fun _ _ => ⟨rfl, rfl, rfl, rfl, rfl⟩⟩
theorem PO_cell {E : jEn} {G : jGh} {F : Nat} {nS pN bN lN' : Nat → Nat} {ty : Nat → Nat → Nat} {W : Nat → Nat} {D : Nat → jDs} {tk LO : Nat → Nat} {sl sp : Nat → Nat → Nat} {H : jHp} {φ q : Nat} {gd : Nat → Prop} {τ ρ : jx_S} {a b : aV} (h : PO E G F nS pN bN lN' ty W D tk LO sl sp H φ gd q τ ρ) (hn : jCn H < 3000) (ha : VT F pN bN ty W H 0 a) (hb : VT F pN bN ty W H 1 b) : PO E G F nS pN bN lN' ty W D tk LO sl sp (hCell H a b) φ gd q τ ρ := by
  obtain ⟨h1, h2, h3, h4, h5, h6, ⟨f1, ⟨p1, p2⟩, ⟨l1, l2⟩, ⟨e1, e2⟩, g1, g2, g3⟩, h11⟩ := h
  have hX : HX H (hCell H a b) := HX_cell
  refine ⟨h1, h2, h3, h4, h5, h6, ⟨f1, ⟨p1, fun i hi => ?_⟩, ⟨fun ψ hψ s hs hb => VT_grow hX (l1 ψ hψ s hs hb), l2⟩, ⟨hn, fun x hx => ?_⟩, g1, g2, fun p hp => ⟨(g3 p hp).1, (g3 p hp).2.1, fun i hi hg => VT_grow hX ((g3 p hp).2.2 i hi hg)⟩⟩, h11⟩
  · obtain ⟨u1, u2, u3, u4, u5, u6, u7⟩ := p2 i hi
    exact ⟨u1, u2, u3, u4, u5, fun q => ⟨(u6 q).1, VT_grow hX (u6 q).2⟩, u7⟩
  · have hx' : x < jCn H + 1 := hx
    show VT F pN bN ty W (hCell H a b) 0 (if x = jCn H then a else jCf H x) ∧ VT F pN bN ty W (hCell H a b) 1 (if x = jCn H then b else jCs H x)
    by_cases z : x = jCn H
    · rw [if_pos z, if_pos z]; exact ⟨VT_grow hX ha, VT_grow hX hb⟩
    · rw [if_neg z, if_neg z]
      have := e2 x (by omega)
      exact ⟨VT_grow hX this.1, VT_grow hX this.2⟩
/-- a part of the top may be put off -/
theorem PRe_top {E : jEn} {G : jGh} {F : Nat} {nS pN bN lN' : Nat → Nat} {ty : Nat → Nat → Nat} {W : Nat → Nat} {D : Nat → jDs} {tk LO : Nat → Nat} {sl sp : Nat → Nat → Nat} {H : jHp} {S : jSt} {an : aV} {bt fc st lm go u i : Nat} {τ ρ : jx_S} (h : RU2 E G F nS pN bN lN' ty W D tk LO sl sp H S u an bt fc st lm go τ ρ) (hd : 0 < jSd S) (hu : u ≤ i) (hi : i < dM (D (jSk S (jSd S - 1)))) (hb : ∀ s, ¬ bnd (dK (D (jSk S (jSd S - 1)))) i (dS (D (jSk S (jSd S - 1)))) s) : PRe E G F nS pN bN lN' ty W D tk LO sl sp H (jSf S (jSd S - 1)) (jSd S - 1) (dC (D (jSk S (jSd S - 1))) i) := by
  obtain ⟨h1, _, _, _, hH, ⟨_, it, _⟩, _⟩ := h
  have hse := it hd
  have hF := (hH.1.2 _ hse.1.1).1
  have hFn := h1.2.2 _ hF
  have hN := hFn.2.2.2.2 _ hse.1.2.1 hse.1.2.2
  obtain ⟨k1, _⟩ := kid_ord hFn hse.1.2.1 hse.1.2.2
  obtain ⟨z1, z2, z3, z4⟩ := k1 i hi
  obtain ⟨_, _, _, _, _, _, _, _, _, _, _, hkid, _⟩ := hN
  refine ⟨hse.1.1, z1, by have := hse.1.2.2; omega, fun s hs => ?_, fun c' q1 q2 => hse.2.2.2.2.2.1 i hu hi c' q1 q2⟩
  rcases (hkid i hi).2.2.1 s hs with q | q
  · exact hse.2.2.1 s q
  · exact absurd q (hb s)
theorem PRe_on {E : jEn} {G : jGh} {F : Nat} {nS pN bN lN' : Nat → Nat} {ty : Nat → Nat → Nat} {W : Nat → Nat} {D : Nat → jDs} {tk LO : Nat → Nat} {sl sp : Nat → Nat → Nat} {H H' : jHp} {φ d c c' : Nat} (h : PRe E G F nS pN bN lN' ty W D tk LO sl sp H φ d c') (x2 : HQ H H') (x3 : OwK φ (LO c) c H H') (hlt : c < LO c') : PRe E G F nS pN bN lN' ty W D tk LO sl sp H' φ d c' := by
  obtain ⟨p1, p2, p3, p4, p5⟩ := h
  obtain ⟨eFn, eFb, eFf, eLb, _⟩ := HQ_f x2
  unfold PRe
  rw [eFn, eFf, eLb]
  exact ⟨p1, p2, p3, p4, fun x q1 q2 => by rw [x3 _ _ (fun z => by omega)]; exact p5 x q1 q2⟩
/-- one part of the top is put off -/
theorem mid_put {E : jEn} {G : jGh} {F : Nat} {nS pN bN lN' : Nat → Nat} {ty : Nat → Nat → Nat} {W : Nat → Nat} {D : Nat → jDs} {tk LO : Nat → Nat} {sl sp : Nat → Nat → Nat} {H : jHp} {S : jSt} {an : aV} {bt fc st lm go u : Nat} {τ ρ : jx_S} (h : RU2 E G F nS pN bN lN' ty W D tk LO sl sp H S u an bt fc st lm go τ ρ) (hd : 0 < jSd S) (hi : u < dM (D (jSk S (jSd S - 1)))) (hb : ∀ s, ¬ bnd (dK (D (jSk S (jSd S - 1)))) u (dS (D (jSk S (jSd S - 1)))) s) :
  (∃ a τ' ρ' H', p_cMac_putOff 33 (nI (dC (D (jSk S (jSd S - 1))) u + 1)) (0 : Int32) τ = some (cV a, τ') ∧ p_r_putOff (nI (dC (D (jSk S (jSd S - 1))) u)) (nI (jFb H (jSf S (jSd S - 1)))) ρ = some (rV a, ρ') ∧ RU2 E G F nS pN bN lN' ty W D tk LO sl sp H' S (u + 1) an bt fc st lm go τ' ρ' ∧ VT F pN bN ty W H' (W (dC (D (jSk S (jSd S - 1))) u)) a ∧ (CPF τ τ' ∧ RPF ρ ρ') ∧ HX H H' ∧ HQ H H' ∧ ∀ x, x < jAn H → ρ'.2 160 x = ρ.2 160 x) ∨
  ∃ v y τ' ρ' H', p_cMac_putOff 33 (nI (dC (D (jSk S (jSd S - 1))) u + 1)) (0 : Int32) τ = some (v, τ') ∧ p_r_putOff (nI (dC (D (jSk S (jSd S - 1))) u)) (nI (jFb H (jSf S (jSd S - 1)))) ρ = some (y, ρ') ∧ EN H' go τ' ρ' ∧ (CPF τ τ' ∧ RPF ρ ρ') ∧ τ'.1 8 14 = 5 ∧ ρ'.1 106 87 = 5 := by
  have hP := PO_of2 h hd
  have hpre := PRe_top h hd (Nat.le_refl u) hi hb
  have hc : τ.1 9 11 = nI (jCn H) ∧ ρ.1 106 70 = nI (jCn H) := ⟨h.2.1.2.1.1, h.2.1.2.1.2.1⟩
  have hse := h.2.2.2.2.2.1.2.1 hd
  have hF := (h.2.2.2.2.1.1.2 _ hse.1.1).1
  obtain ⟨_, ko⟩ := kid_ord (h.1.2.2 _ hF) hse.1.2.1 hse.1.2.2
  rcases put_off hP hpre with ⟨a, τ', ρ', H', r1, r2, y1, y2, y3, y4, y5, y6, y7, y8⟩ | ⟨v, y, τ', ρ', H', r1, r2, y1, y2, y3, y4, y5, y6⟩
  · refine Or.inl ⟨a, τ', ρ', H', r1, r2, ?_, y6, ⟨y1, y2⟩, y3, y4, y8⟩
    refine RU2_put (lo := LO (dC (D (jSk S (jSd S - 1))) u)) (hi := dC (D (jSk S (jSd S - 1))) u) h hd (CPC_of y1) (RPC_of y2) y3 (HQc_of y4) y5 hpre.2.2.2.2 (fun i q1 q2 => ko u i (by omega) q2) (Nat.le_succ u) ?_ y7
    obtain ⟨e1, e2, e3⟩ := h.2.1.2.1
    have eC : H'.2.1 = H.2.1 := y4.1
    unfold RCe jCn jCf jCs
    rw [eC, y1.2.2.1 11 (by decide), y1.2.2.2 85 (by decide), y1.2.2.2 87 (by decide), y2.2.1 70 (by decide), y2.2.2 155 (by decide), y2.2.2 156 (by decide)]
    exact ⟨e1, e2, e3⟩
  · refine Or.inr ⟨v, y, τ', ρ', H', r1, r2, ?_, ⟨y1, y2⟩, y3, y4⟩
    refine EN_put h (CPC_of y1) (RPC_of y2) (HQc_of y5) y5.2.2.2.2.2.2 y3 y4 ?_ y6
    rw [y1.2.2.1 11 (by decide), y2.2.1 70 (by decide), hc.1, hc.2]
theorem BZ_put {H H' : jHp} {S : jSt} {pd : Nat} (h : BZ H S pd) (x2 : HQc H H') : BZ H' S pd := fun i hi hs => by
  by_cases z : i < jPn H
  · exact h i z (by rw [← (x2.2.2.1 i z).1]; exact hs)
  · have := x2.2.2.2.1 i (by omega) hi
    omega
theorem c_po5 {τ : jx_S} {x w : Int32} {n : Nat} (h : τ.1 8 14 = 5) : p_cMac_putOff (n + 1) x w τ = some (0, τ) := by
  show p_cMac_putOff_b (p_cMac_putOff n) x w τ = _
  unfold p_cMac_putOff_b
  rw [h, if_pos (by decide)]
theorem RU1_close {E : jEn} {G : jGh} {F : Nat} {nS pN bN lN' : Nat → Nat} {ty : Nat → Nat → Nat} {W : Nat → Nat} {D : Nat → jDs} {tk LO : Nat → Nat} {sl sp : Nat → Nat → Nat} {H : jHp} {S : jSt} {an : aV} {bt fc st lm go u : Nat} {τ ρ : jx_S} (h : RU2 E G F nS pN bN lN' ty W D tk LO sl sp H S u an bt fc st lm go τ ρ) (hd : 0 < jSd S) (c79 : τ.1 79 (jSd S - 1) = nI (jSg S (jSd S - 1))) (r163 : ρ.1 163 (jSd S - 1) = nI (rstg (dK (D (jSk S (jSd S - 1)))) (jSg S (jSd S - 1)))) (r85 : ρ.1 106 85 = nI (sumN (keptS D S) (jSd S))) (hk : keptS D S (jSd S - 1) = 0) (h2 : ¬ (dK (D (jSk S (jSd S - 1))) < 28 ∧ jSg S (jSd S - 1) = 2)) : RU1 E G F nS pN bN lN' ty W D tk LO sl sp H S u an bt fc st lm go τ ρ := by
  obtain ⟨h1, hp, ⟨⟨s1, s2, s3⟩, s4, s5⟩, hk', hH, hS, h13⟩ := h
  refine ⟨h1, hp, ⟨⟨s1, s2, s3⟩, r85, fun d hd' => ?_⟩, hk', hH, hS, h13⟩
  obtain ⟨t1, t2, t4⟩ := s4 d hd'
  by_cases z : d = jSd S - 1
  · subst z
    exact ⟨t1, t2, ⟨c79, r163⟩, t4, fun j hj => by rw [hk] at hj; omega, fun q1 q2 => absurd ⟨q1, q2⟩ h2⟩
  · obtain ⟨t3, t5, t6⟩ := s5 d (by omega)
    exact ⟨t1, t2, t3, t4, t5, t6⟩
