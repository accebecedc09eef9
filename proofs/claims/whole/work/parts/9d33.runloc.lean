/-! RUNS, 33: what was put off is being worked, or is done. -/
def hBsy (H : jHp) (i : Nat) : jHp := ((jPn H, jPk H, jPf H, fun j => if j = i then 1 else jPs H j, jPv H), H.2)
def hSet (H : jHp) (i : Nat) (v : aV) : jHp := ((jPn H, jPk H, jPf H, fun j => if j = i then 2 else jPs H j, fun j => if j = i then v else jPv H j), H.2)
theorem sumN_one {g h : Nat → Nat} {i : Nat} : ∀ n, i < n → (∀ j, j < n → j ≠ i → h j = g j) → h i = g i + 1 → sumN h n = sumN g n + 1 := by
  intro n
  induction n with
  | zero => intro hi; omega
  | succ n ih =>
    intro hi hj he
    have e1 : sumN h (n + 1) = sumN h n + h n := rfl
    have e2 : sumN g (n + 1) = sumN g n + g n := rfl
    by_cases z : i = n
    · subst z
      have := sumN_congr (g := h) (h := g) i (fun j q => hj j (by omega) (by omega))
      omega
    · have := ih (by omega) (fun j q => hj j (by omega)) he
      have := hj n (by omega) (fun q => z q.symm)
      omega
theorem RU0_bsy {E : jEn} {G : jGh} {F : Nat} {nS pN bN lN' : Nat → Nat} {ty : Nat → Nat → Nat} {W : Nat → Nat} {D : Nat → jDs} {tk LO : Nat → Nat} {sl sp : Nat → Nat → Nat} {H : jHp} {S : jSt} {an : aV} {bt fc st lm go i : Nat} {τ ρ τ' ρ' : jx_S} (h : RU0 E G F nS pN bN lN' ty W D tk LO sl sp H S 0 an bt fc st lm go τ ρ) (hi : i < jPn H) (hs : jPs H i = 0) (c1 : τ'.1 93 = upd (τ.1 93) i (nI 1)) (c2 : ∀ r, r ≠ 93 → τ'.1 r = τ.1 r) (c3 : τ'.2 = τ.2) (d1 : ρ'.1 153 = upd (ρ.1 153) i (nI 1)) (d2 : ∀ r, r ≠ 153 → ρ'.1 r = ρ.1 r) (d3 : ρ'.2 = ρ.2) : RU0 E G F nS pN bN lN' ty W D tk LO sl sp (hBsy H i) S 0 an bt fc st lm go τ' ρ' := by
  obtain ⟨h1, ⟨⟨p1, p2, p3⟩, hc, hg, ho, hl⟩, hst, hk, ⟨f1, ⟨q1, q2⟩, f3, f4, f5⟩, ⟨i1, i2, i3, i4⟩, h13⟩ := h
  refine ⟨RP_keep h1 (fun r hr => c2 r (by revert hr; revert r; decide)) (by rw [c3]) (fun r hr => d2 r (by revert hr; revert r; decide)), ⟨⟨?_, ?_, fun j hj => ?_⟩, ?_, ?_, ?_, ?_⟩, ?_, ?_, ⟨f1, ⟨q1, fun j hj => ?_⟩, f3, f4, f5⟩, ⟨fun d hd => ?_, i2, i3, i4⟩, ?_⟩
  · rw [c2 9 (by decide)]; exact p1
  · rw [d2 106 (by decide)]; exact p2
  · obtain ⟨u1, u2, ⟨u5, u6⟩, u7, u8⟩ := p3 j hj
    rw [c2 89 (by decide), d2 151 (by decide), c2 91 (by decide), d2 152 (by decide), c3, d3]
    refine ⟨u1, u2, ⟨?_, ?_⟩, fun z => ?_, fun z => by omega⟩
    · show τ'.1 93 j = nI (if j = i then 1 else jPs H j)
      rw [c1]
      by_cases y : j = i
      · rw [if_pos y, u_eq y]
      · rw [if_neg y, u_ne y]; exact u5
    · show ρ'.1 153 j = nI (if 0 = j + 1 then 2 else if j = i then 1 else jPs H j)
      rw [d1, if_neg (by omega)]
      rw [if_neg (by omega)] at u6
      by_cases y : j = i
      · rw [if_pos y, u_eq y]
      · rw [if_neg y, u_ne y]; exact u6
    · have z' : (if j = i then 1 else jPs H j) = 2 := z
      by_cases y : j = i
      · rw [if_pos y] at z'; omega
      · rw [if_neg y] at z'; exact u7 z'
  · unfold RCe at hc ⊢; rw [c2 9 (by decide), d2 106 (by decide), c3, d3]; exact hc
  · unfold RPa at hg ⊢; rw [c2 9 (by decide), d2 106 (by decide), c2 103 (by decide), c2 105 (by decide), d2 158 (by decide), d2 159 (by decide), c3, d3]; exact hg
  · unfold RGo at ho ⊢; rw [c2 9 (by decide), d2 106 (by decide), c3, d3]; exact ho
  · unfold RLo at hl ⊢; rw [c2 9 (by decide), d2 106 (by decide), c3, d3]; exact hl
  · unfold RStk at hst ⊢; rw [c2 8 (by decide), d2 106 (by decide), c2 75 (by decide), d2 161 (by decide), c2 77 (by decide), d2 162 (by decide), c2 79 (by decide), d2 163 (by decide), d2 164 (by decide), c3, d3]; exact hst
  · unfold RSc at hk ⊢; rw [c2 8 (by decide), d2 106 (by decide), c2 71 (by decide)]; exact hk
  · obtain ⟨u1, u2, u3, u4, u5, u6, u7⟩ := q2 j hj
    show (jPf H j < jFn H ∧ nS (jFf H (jPf H j)) ≤ jPk H j ∧ jPk H j < nS (jFf H (jPf H j) + 1)) ∧ W (jPk H j) < 2 ∧ (if j = i then 1 else jPs H j) < 3 ∧ (∀ s, gV G (jPk H j) s → jLb H (jPf H j) s) ∧ ((if j = i then 1 else jPs H j) = 0 → ∀ c, LO (jPk H j) ≤ c → c ≤ jPk H j → jOw H c (jPf H j) = 2 * j + 2) ∧ ((if j = i then 1 else jPs H j) = 2 → (jPv H j).1 < 3 ∧ VT F pN bN ty W H (W (jPk H j)) (jPv H j)) ∧ (dK (D (jPk H j)) = 28 → 0 < dM (D (jPk H j)))
    by_cases y : j = i
    · rw [if_pos y]
      exact ⟨u1, u2, by omega, u4, fun z => by omega, fun z => by omega, u7⟩
    · rw [if_neg y]
      exact ⟨u1, u2, u3, u4, u5, u6, u7⟩
  · obtain ⟨t1, t2, t3, t4, t5, t6, t7, t8, t9⟩ := i1 d hd
    refine ⟨t1, t2, t3, t4, t5, t6, t7, fun z => ?_, t9⟩
    obtain ⟨w1, w2, w3⟩ := t8 z
    refine ⟨w1, ?_, w3⟩
    show (if jSl S d - 1 = i then 1 else jPs H (jSl S d - 1)) = 1
    by_cases y : jSl S d - 1 = i
    · rw [if_pos y]
    · rw [if_neg y]; exact w2
  · rw [c2 9 (by decide), h13]
    congr 1
    exact sumN_congr _ (fun j hj => by
      show (if jPs H j = 2 then 1 else 0) = (if (if j = i then 1 else jPs H j) = 2 then 1 else 0)
      by_cases y : j = i
      · rw [if_pos y, if_neg (show ¬ (1 : Nat) = 2 by omega), if_neg (by rw [y]; omega)]
      · rw [if_neg y])
theorem BZ_bsy {H : jHp} {S : jSt} {i : Nat} (h : BZ H S 0) : BZ (hBsy H i) S (i + 1) := fun j hj hs => by
  have hs' : (if j = i then 1 else jPs H j) = 1 := hs
  by_cases y : j = i
  · exact Or.inl (by omega)
  · rw [if_neg y] at hs'
    rcases h j hj hs' with q | q
    · omega
    · exact Or.inr q
/-- what has just been worked is kept -/
theorem RU0_set {E : jEn} {G : jGh} {F : Nat} {nS pN bN lN' : Nat → Nat} {ty : Nat → Nat → Nat} {W : Nat → Nat} {D : Nat → jDs} {tk LO : Nat → Nat} {sl sp : Nat → Nat → Nat} {H : jHp} {S : jSt} {an : aV} {bt fc st lm go i : Nat} {τ ρ τ' : jx_S} (h : RU0 E G F nS pN bN lN' ty W D tk LO sl sp H S (i + 1) an bt fc st lm go τ ρ) (hi : i < jPn H) (hs : jPs H i = 1) (ha : an.1 < 3) (hv : VT F pN bN ty W H (W (jPk H i)) an) (hl0 : ∀ d, d < jSd S → jSl S d ≠ 0 → jSl S d ≠ i + 1) (c1 : τ'.1 93 = upd (τ.1 93) i (nI 2)) (c2 : ∀ r, r ≠ 93 → r ≠ 9 → τ'.1 r = τ.1 r) (c3 : ∀ j, j ≠ 13 → τ'.1 9 j = τ.1 9 j) (c4 : τ'.1 9 13 = τ.1 9 13 + 1) (c5 : ∀ r, r ≠ 95 → τ'.2 r = τ.2 r) (c6 : τ'.2 95 = vp_updL (τ.2 95) i (cV an)) : RU0 E G F nS pN bN lN' ty W D tk LO sl sp (hSet H i an) S 0 an bt fc st lm go τ' ρ := by
  obtain ⟨h1, ⟨⟨p1, p2, p3⟩, hc, hg, ho, hl⟩, hst, hk, ⟨f1, ⟨q1, q2⟩, f3, f4, f5⟩, ⟨i1, i2, i3, i4⟩, h13⟩ := h
  refine ⟨RP_keep h1 (fun r hr => c2 r (by revert hr; revert r; decide) (by revert hr; revert r; decide)) (c5 19 (by decide)) (fun _ _ => rfl), ⟨⟨?_, p2, fun j hj => ?_⟩, ?_, ?_, ?_, ?_⟩, ?_, ?_, ⟨f1, ⟨q1, fun j hj => ?_⟩, f3, f4, f5⟩, ⟨fun d hd => ?_, i2, i3, i4⟩, ?_⟩
  · rw [c3 12 (by decide)]; exact p1
  · obtain ⟨u1, u2, ⟨u5, u6⟩, u7, u8⟩ := p3 j hj
    rw [c2 89 (by decide) (by decide), c2 91 (by decide) (by decide), c1, c6]
    refine ⟨u1, u2, ⟨?_, ?_⟩, fun z => ?_, fun z => by omega⟩
    · show upd (τ.1 93) i (nI 2) j = nI (if j = i then 2 else jPs H j)
      by_cases y : j = i
      · rw [if_pos y, u_eq y]
      · rw [if_neg y, u_ne y]; exact u5
    · show ρ.1 153 j = nI (if 0 = j + 1 then 2 else if j = i then 2 else jPs H j)
      rw [if_neg (by omega)]
      by_cases y : j = i
      · rw [if_pos y]; rw [if_pos (by omega)] at u6; exact u6
      · rw [if_neg y]; rw [if_neg (by omega)] at u6; exact u6
    · have z' : (if j = i then 2 else jPs H j) = 2 := z
      show vp_updL (τ.2 95) i (cV an) j = cV (if j = i then an else jPv H j) ∧ ρ.2 154 j = rV (if j = i then an else jPv H j)
      by_cases y : j = i
      · rw [if_pos y, v_eq y]; exact ⟨rfl, u8 (by omega)⟩
      · rw [if_neg y] at z'
        rw [if_neg y, v_ne y]; exact u7 z'
  · unfold RCe at hc ⊢; rw [c3 11 (by decide), c5 85 (by decide), c5 87 (by decide)]; exact hc
  · unfold RPa at hg ⊢; rw [c3 16 (by decide), c2 103 (by decide) (by decide), c2 105 (by decide) (by decide), c5 101 (by decide)]; exact hg
  · unfold RGo at ho ⊢; rw [c3 15 (by decide), c5 99 (by decide)]; exact ho
  · unfold RLo at hl ⊢; rw [c3 14 (by decide), c5 97 (by decide)]; exact hl
  · unfold RStk at hst ⊢; rw [c2 8 (by decide) (by decide), c2 75 (by decide) (by decide), c2 77 (by decide) (by decide), c2 79 (by decide) (by decide), c5 81 (by decide)]; exact hst
  · unfold RSc at hk ⊢; rw [c2 8 (by decide) (by decide), c2 71 (by decide) (by decide)]; exact hk
  · obtain ⟨u1, u2, u3, u4, u5, u6, u7⟩ := q2 j hj
    show (jPf H j < jFn H ∧ nS (jFf H (jPf H j)) ≤ jPk H j ∧ jPk H j < nS (jFf H (jPf H j) + 1)) ∧ W (jPk H j) < 2 ∧ (if j = i then 2 else jPs H j) < 3 ∧ (∀ s, gV G (jPk H j) s → jLb H (jPf H j) s) ∧ ((if j = i then 2 else jPs H j) = 0 → ∀ c, LO (jPk H j) ≤ c → c ≤ jPk H j → jOw H c (jPf H j) = 2 * j + 2) ∧ ((if j = i then 2 else jPs H j) = 2 → (if j = i then an else jPv H j).1 < 3 ∧ VT F pN bN ty W H (W (jPk H j)) (if j = i then an else jPv H j)) ∧ (dK (D (jPk H j)) = 28 → 0 < dM (D (jPk H j)))
    by_cases y : j = i
    · simp only [if_pos y]
      exact ⟨u1, u2, by omega, u4, fun z => by omega, fun z => ⟨ha, by rw [y]; exact hv⟩, u7⟩
    · simp only [if_neg y]
      exact ⟨u1, u2, u3, u4, u5, u6, u7⟩
  · obtain ⟨t1, t2, t3, t4, t5, t6, t7, t8, t9⟩ := i1 d hd
    refine ⟨t1, t2, t3, t4, t5, t6, t7, fun z => ?_, t9⟩
    obtain ⟨w1, w2, w3⟩ := t8 z
    have := hl0 d hd z
    refine ⟨w1, ?_, w3⟩
    show (if jSl S d - 1 = i then 2 else jPs H (jSl S d - 1)) = 1
    rw [if_neg (by omega)]; exact w2
  · rw [c4, h13, show nI (dnN H) + (1 : Int32) = nI (dnN H + 1) from (nI_succ _).symm]
    congr 1
    symm
    exact sumN_one (g := fun j => if jPs H j = 2 then 1 else 0) (i := i) _ hi (fun j _ y => by
      show (if (if j = i then 2 else jPs H j) = 2 then 1 else 0) = (if jPs H j = 2 then 1 else 0)
      rw [if_neg y]) (by
      show (if (if i = i then 2 else jPs H i) = 2 then 1 else 0) = (if jPs H i = 2 then 1 else 0) + 1
      rw [if_pos rfl, if_pos rfl, if_neg (by omega)])
theorem BZ_set {H : jHp} {S : jSt} {i : Nat} {v : aV} (h : BZ H S (i + 1)) : BZ (hSet H i v) S 0 := fun j hj hs => by
  have hs' : (if j = i then 2 else jPs H j) = 1 := hs
  by_cases y : j = i
  · rw [if_pos y] at hs'; omega
  · rw [if_neg y] at hs'
    rcases h j hj hs' with q | q
    · omega
    · exact Or.inr q
/-- something that was put off begins -/
theorem beg_po {E : jEn} {G : jGh} {F : Nat} {nS pN bN lN' : Nat → Nat} {ty : Nat → Nat → Nat} {W : Nat → Nat} {D : Nat → jDs} {tk LO : Nat → Nat} {sl sp : Nat → Nat → Nat} {H : jHp} {S : jSt} {an : aV} {bt fc st lm go i : Nat} {τ ρ τ' ρ' : jx_S} (h : RU0 E G F nS pN bN lN' ty W D tk LO sl sp H S 0 an bt fc st lm go τ ρ) (hz : BZ H S 0) (hi : i < jPn H) (hs : jPs H i = 0) (c1 : τ'.1 93 = upd (τ.1 93) i (nI 1)) (c2 : ∀ r, r ≠ 93 → τ'.1 r = τ.1 r) (c3 : τ'.2 = τ.2) (d1 : ρ'.1 153 = upd (ρ.1 153) i (nI 1)) (d2 : ∀ r, r ≠ 153 → ρ'.1 r = ρ.1 r) (d3 : ρ'.2 = ρ.2)
  (hw : 0 < jSd S → SW W D H S (jSd S - 1) (i + 1) ∧ W (jPk H i) = xtyp W D (jSk S (jSd S - 1)) (jSg S (jSd S - 1))) (hw0 : jSd S = 0 → W (jPk H i) = bt ∧ i + 1 = fc) : ∃ τ2 ρ2, p_cMac_begin (nI (jPk H i + 1)) (nI (jFb H (jPf H i))) τ' = some τ2 ∧ p_r_begin (nI (jPk H i)) (nI (jFb H (jPf H i))) (nI i) ρ' = some ρ2 ∧ ((∃ H', EN H' go τ2 ρ2) ∨ ∃ H' S' an', RUN E G F nS pN bN lN' ty W D tk LO sl sp H' S' 0 an' bt fc (st + 1) lm go τ2 ρ2 ∧ mea S' (st + 1) lm = mea S st lm) := by
  have hR := RU0_bsy h hi hs c1 c2 c3 d1 d2 d3
  obtain ⟨_, _, _, _, hH, ⟨i1, _⟩, _⟩ := id h
  obtain ⟨u1, u2, u3, u4, u5, u6, u7⟩ := hH.2.1.2 i hi
  obtain ⟨τ2, ρ2, r1, r2, r3⟩ := run_beg (l := i + 1) (o := 2 * i + 2) (c := jPk H i) (φ := jPf H i) hR (BZ_bsy hz) u1.1 u1.2.1 u1.2.2 u2 u4 (by omega) (fun x q1 q2 => u5 hs x q1 q2) (fun d hd' i' q1 q2 x q3 q4 q => by
      have hown := (i1 d hd').2.2.2.2.2.1 i' q1 q2 x q3 q4
      have := u5 hs x q.2.1 q.2.2
      rw [q.1] at hown
      omega) (fun j hj q0 x q1 q2 q => by
      have q0' : (if j = i then 1 else jPs H j) = 0 := q0
      by_cases y : j = i
      · rw [if_pos y] at q0'; omega
      · rw [if_neg y] at q0'
        have hown := (hH.2.1.2 j hj).2.2.2.2.1 q0' x q1 q2
        have := u5 hs x q.2.1 q.2.2
        have q' : jPf H j = jPf H i := q.1
        rw [q'] at hown
        omega) hw hw0 (fun _ => ⟨hi, (show (if i + 1 - 1 = i then 1 else jPs H (i + 1 - 1)) = 1 from if_pos (by omega)), rfl, fun d hd' z => by
        have w := (i1 d hd').2.2.2.2.2.2.2.1 (by omega)
        rw [z, Nat.add_sub_cancel] at w
        omega⟩)
  rw [if_neg (by omega), Nat.add_sub_cancel] at r2
  refine ⟨τ2, ρ2, r1, r2, ?_⟩
  rcases r3 with r3 | ⟨r3, r4⟩
  · exact Or.inl ⟨_, r3⟩
  · exact Or.inr ⟨_, _, an, r4, mea_push r3⟩
