/-! RUNS, 7: the heap grows, and what holds of it stays. -/
def hAdd (LO : Nat → Nat) (H : jHp) (k φ : Nat) : jHp := ((jPn H + 1, fun i => if i = jPn H then k else jPk H i, fun i => if i = jPn H then φ else jPf H i, fun i => if i = jPn H then 0 else jPs H i, jPv H), H.2.1, H.2.2.1, H.2.2.2.1, H.2.2.2.2.1, H.2.2.2.2.2.1, fun c ψ => if ψ = φ ∧ LO k ≤ c ∧ c ≤ k then 2 * jPn H + 2 else jOw H c ψ)
def hPart (H : jHp) (v : aV) (m g t : Nat) : jHp := (H.1, H.2.1, (jGn H + 1, fun p => if p = jGn H then v else jGo H p, fun p => if p = jGn H then jAn H else jGf H p, fun p => if p = jGn H then m else jGs H p, fun p => if p = jGn H then g else jGg H p, fun p => if p = jGn H then t else jGt H p), (jAn H + m, jAv H), H.2.2.2.2)
def hGot (H : jHp) (a : Nat) (v : aV) : jHp := (H.1, H.2.1, H.2.2.1, (jAn H, fun j => if j = a then v else jAv H j), H.2.2.2.2)
def HI (E : jEn) (G : jGh) (F : Nat) (nS pN bN lN' : Nat → Nat) (ty : Nat → Nat → Nat) (W : Nat → Nat) (D : Nat → jDs) (tk LO : Nat → Nat) (sl sp : Nat → Nat → Nat) (H : jHp) (gd : Nat → Prop) : Prop := HIf F lN' H ∧ HIp G F nS pN bN ty W D LO H ∧ HIl F nS pN bN lN' ty W D H ∧ HIc F pN bN ty W H ∧ HIg F pN bN ty W H gd
theorem HX_add {LO : Nat → Nat} {H : jHp} {k φ : Nat} : HX H (hAdd LO H k φ) := ⟨⟨Nat.le_succ _, fun i hi => ⟨if_neg (by omega), if_neg (by omega)⟩⟩, Nat.le_refl _, Nat.le_refl _, fun _ _ => ⟨rfl, rfl, rfl, rfl, rfl⟩⟩
theorem HX_part {H : jHp} {v : aV} {m g t : Nat} : HX H (hPart H v m g t) := ⟨⟨Nat.le_refl _, fun _ _ => ⟨rfl, rfl⟩⟩, Nat.le_refl _, Nat.le_succ _, fun p hp => ⟨if_neg (by omega), if_neg (by omega), if_neg (by omega), if_neg (by omega), if_neg (by omega)⟩⟩
theorem HX_got {H : jHp} {a : Nat} {v : aV} : HX H (hGot H a v) := ⟨⟨Nat.le_refl _, fun _ _ => ⟨rfl, rfl⟩⟩, Nat.le_refl _, Nat.le_refl _, fun _ _ => ⟨rfl, rfl, rfl, rfl, rfl⟩⟩
theorem HI_add {E : jEn} {G : jGh} {F : Nat} {nS pN bN lN' : Nat → Nat} {ty : Nat → Nat → Nat} {W : Nat → Nat} {D : Nat → jDs} {tk LO : Nat → Nat} {sl sp : Nat → Nat → Nat} {H : jHp} {gd : Nat → Prop} {c φ d : Nat} (h : HI E G F nS pN bN lN' ty W D tk LO sl sp H gd) (hφ : φ < jFn H) (hc1 : nS (jFf H φ) ≤ c) (hc2 : c < nS (jFf H φ + 1)) (hW : W c < 2) (hv : ∀ s, gV G c s → jLb H φ s) (ho : ∀ c', LO c ≤ c' → c' ≤ c → jOw H c' φ = 2 * d + 1) (hk : dK (D c) = 28 → 0 < dM (D c)) (hn : jPn H < 3000) : HI E G F nS pN bN lN' ty W D tk LO sl sp (hAdd LO H c φ) gd := by
  obtain ⟨h1, ⟨p1, p2⟩, ⟨l1, l2⟩, ⟨c1, c2⟩, g1, g2, g3⟩ := h
  have hX : HX H (hAdd LO H c φ) := HX_add
  refine ⟨h1, ⟨hn, fun i hi => ?_⟩, ⟨fun ψ hψ s hs hb => VT_grow hX (l1 ψ hψ s hs hb), fun ψ hψ k k1 k2 hk s hs => ?_⟩, ⟨c1, fun x hx => ⟨VT_grow hX (c2 x hx).1, VT_grow hX (c2 x hx).2⟩⟩, g1, g2, fun p hp => ⟨(g3 p hp).1, (g3 p hp).2.1, fun i hi hg => VT_grow hX ((g3 p hp).2.2 i hi hg)⟩⟩
  · have hi' : i < jPn H + 1 := hi
    show ((if i = jPn H then φ else jPf H i) < jFn H ∧ nS (jFf H (if i = jPn H then φ else jPf H i)) ≤ (if i = jPn H then c else jPk H i) ∧ (if i = jPn H then c else jPk H i) < nS (jFf H (if i = jPn H then φ else jPf H i) + 1)) ∧ W (if i = jPn H then c else jPk H i) < 2 ∧ (if i = jPn H then 0 else jPs H i) < 3 ∧ (∀ s, gV G (if i = jPn H then c else jPk H i) s → jLb H (if i = jPn H then φ else jPf H i) s) ∧ ((if i = jPn H then 0 else jPs H i) = 0 → ∀ c', LO (if i = jPn H then c else jPk H i) ≤ c' → c' ≤ (if i = jPn H then c else jPk H i) → (if (if i = jPn H then φ else jPf H i) = φ ∧ LO c ≤ c' ∧ c' ≤ c then 2 * jPn H + 2 else jOw H c' (if i = jPn H then φ else jPf H i)) = 2 * i + 2) ∧ ((if i = jPn H then 0 else jPs H i) = 2 → (jPv H i).1 < 3 ∧ VT F pN bN ty W (hAdd LO H c φ) (W (if i = jPn H then c else jPk H i)) (jPv H i)) ∧ (dK (D (if i = jPn H then c else jPk H i)) = 28 → 0 < dM (D (if i = jPn H then c else jPk H i)))
    by_cases z : i = jPn H
    · simp only [if_pos z]
      exact ⟨⟨hφ, hc1, hc2⟩, hW, by omega, hv, fun _ c' q1 q2 => by rw [if_pos ⟨trivial, q1, q2⟩, z], fun q => by omega, hk⟩
    · simp only [if_neg z]
      obtain ⟨u1, u2, u3, u4, u5, u6, u7⟩ := p2 i (by omega)
      refine ⟨u1, u2, u3, u4, fun q c' q1 q2 => ?_, fun q => ⟨(u6 q).1, VT_grow hX (u6 q).2⟩, u7⟩
      have w := u5 q c' q1 q2
      by_cases y : jPf H i = φ ∧ LO c ≤ c' ∧ c' ≤ c
      · have := ho c' y.2.1 y.2.2
        rw [y.1] at w
        omega
      · rw [if_neg y]; exact w
  · refine l2 ψ hψ k k1 k2 ?_ s hs
    have hk' : (if ψ = φ ∧ LO c ≤ k ∧ k ≤ c then 2 * jPn H + 2 else jOw H k ψ) ≠ 0 := hk
    by_cases y : ψ = φ ∧ LO c ≤ k ∧ k ≤ c
    · rw [y.1, ho k y.2.1 y.2.2]; omega
    · rw [if_neg y] at hk'; exact hk'
theorem HI_part {E : jEn} {G : jGh} {F : Nat} {nS pN bN lN' : Nat → Nat} {ty : Nat → Nat → Nat} {W : Nat → Nat} {D : Nat → jDs} {tk LO : Nat → Nat} {sl sp : Nat → Nat → Nat} {H : jHp} {gd : Nat → Prop} {v : aV} {m g t : Nat} (h : HI E G F nS pN bN lN' ty W D tk LO sl sp H gd) (hgd : ∀ a, gd a → a < jAn H) (hg : g < F) (hm : 1 ≤ m) (hmt : m ≤ t) (ht : t ≤ pN g) (hA : jAn H + m ≤ 6000) (hv : (v = (4, nI g) ∧ t = m) ∨ ∃ q, q < jGn H ∧ v = (5, nI q) ∧ jGg H q = g ∧ t = jGt H q + m) : HI E G F nS pN bN lN' ty W D tk LO sl sp (hPart H v m g t) gd := by
  obtain ⟨h1, ⟨p1, p2⟩, ⟨l1, l2⟩, ⟨c1, c2⟩, g1, g2, g3⟩ := h
  have hX : HX H (hPart H v m g t) := HX_part
  refine ⟨h1, ⟨p1, fun i hi => ?_⟩, ⟨fun ψ hψ s hs hb => VT_grow hX (l1 ψ hψ s hs hb), l2⟩, ⟨c1, fun x hx => ⟨VT_grow hX (c2 x hx).1, VT_grow hX (c2 x hx).2⟩⟩, ?_, hA, fun p hp => ?_⟩
  · obtain ⟨u1, u2, u3, u4, u5, u6, u7⟩ := p2 i hi
    exact ⟨u1, u2, u3, u4, u5, fun q => ⟨(u6 q).1, VT_grow hX (u6 q).2⟩, u7⟩
  · show jGn H + 1 ≤ jAn H + m
    omega
  · have hp' : p < jGn H + 1 := hp
    show ((if p = jGn H then g else jGg H p) < F ∧ 1 ≤ (if p = jGn H then m else jGs H p) ∧ (if p = jGn H then m else jGs H p) ≤ (if p = jGn H then t else jGt H p) ∧ (if p = jGn H then t else jGt H p) ≤ pN (if p = jGn H then g else jGg H p) ∧ (if p = jGn H then jAn H else jGf H p) + (if p = jGn H then m else jGs H p) ≤ jAn H + m ∧ ∀ p', p' < p → (if p' = jGn H then jAn H else jGf H p') + (if p' = jGn H then m else jGs H p') ≤ (if p = jGn H then jAn H else jGf H p)) ∧ (((if p = jGn H then v else jGo H p) = (4, nI (if p = jGn H then g else jGg H p)) ∧ (if p = jGn H then t else jGt H p) = (if p = jGn H then m else jGs H p)) ∨ ∃ q, q < p ∧ (if p = jGn H then v else jGo H p) = (5, nI q) ∧ (if q = jGn H then g else jGg H q) = (if p = jGn H then g else jGg H p) ∧ (if p = jGn H then t else jGt H p) = (if q = jGn H then t else jGt H q) + (if p = jGn H then m else jGs H p)) ∧ ∀ i, i < (if p = jGn H then m else jGs H p) → gd ((if p = jGn H then jAn H else jGf H p) + i) → VT F pN bN ty W (hPart H v m g t) (ty (if p = jGn H then g else jGg H p) ((if p = jGn H then t else jGt H p) - (if p = jGn H then m else jGs H p) + i)) (jAv H ((if p = jGn H then jAn H else jGf H p) + i))
    by_cases z : p = jGn H
    · simp only [if_pos z]
      refine ⟨⟨hg, hm, hmt, ht, Nat.le_refl _, fun p' q => ?_⟩, ?_, fun i hi q => ?_⟩
      · rw [if_neg (show p' ≠ jGn H by omega), if_neg (show p' ≠ jGn H by omega)]
        exact (g3 p' (by omega)).1.2.2.2.2.1
      · rcases hv with w | ⟨q, w1, w2, w3, w4⟩
        · exact Or.inl w
        · refine Or.inr ⟨q, by omega, w2, ?_, ?_⟩
          · rw [if_neg (by omega)]; exact w3
          · rw [if_neg (by omega)]; exact w4
      · have := hgd _ q
        omega
    · simp only [if_neg z]
      obtain ⟨⟨u1, u2, u3, u4, u5, u5'⟩, u6, u7⟩ := g3 p (by omega)
      refine ⟨⟨u1, u2, u3, u4, by omega, fun p' q => ?_⟩, ?_, fun i hi q => VT_grow hX (u7 i hi q)⟩
      · rw [if_neg (by omega), if_neg (by omega)]; exact u5' p' q
      · rcases u6 with w | ⟨q, w1, w2, w3, w4⟩
        · exact Or.inl w
        · refine Or.inr ⟨q, w1, w2, ?_, ?_⟩
          · rw [if_neg (by omega)]; exact w3
          · rw [if_neg (by omega)]; exact w4
theorem HI_got {E : jEn} {G : jGh} {F : Nat} {nS pN bN lN' : Nat → Nat} {ty : Nat → Nat → Nat} {W : Nat → Nat} {D : Nat → jDs} {tk LO : Nat → Nat} {sl sp : Nat → Nat → Nat} {H : jHp} {gd gd' : Nat → Prop} {v : aV} {p i : Nat} (h : HI E G F nS pN bN lN' ty W D tk LO sl sp H gd) (hp : p < jGn H) (hi : i < jGs H p) (hgd : ∀ a, gd' a → gd a ∨ a = jGf H p + i) (hv : VT F pN bN ty W H (ty (jGg H p) (jGt H p - jGs H p + i)) v) : HI E G F nS pN bN lN' ty W D tk LO sl sp (hGot H (jGf H p + i) v) gd' := by
  obtain ⟨h1, ⟨p1, p2⟩, ⟨l1, l2⟩, ⟨c1, c2⟩, g1, g2, g3⟩ := h
  have hX : HX H (hGot H (jGf H p + i) v) := HX_got
  refine ⟨h1, ⟨p1, fun i hi => ?_⟩, ⟨fun ψ hψ s hs hb => VT_grow hX (l1 ψ hψ s hs hb), l2⟩, ⟨c1, fun x hx => ⟨VT_grow hX (c2 x hx).1, VT_grow hX (c2 x hx).2⟩⟩, g1, g2, fun r hr => ?_⟩
  · obtain ⟨u1, u2, u3, u4, u5, u6, u7⟩ := p2 i hi
    exact ⟨u1, u2, u3, u4, u5, fun q => ⟨(u6 q).1, VT_grow hX (u6 q).2⟩, u7⟩
  · obtain ⟨u1, u6, u7⟩ := g3 r hr
    refine ⟨u1, u6, fun j hj q => ?_⟩
    show VT F pN bN ty W (hGot H (jGf H p + i) v) (ty (jGg H r) (jGt H r - jGs H r + j)) (if jGf H r + j = jGf H p + i then v else jAv H (jGf H r + j))
    have hj' : j < jGs H r := hj
    by_cases z : jGf H r + j = jGf H p + i
    · rw [if_pos z]
      have hpr : r = p := by
        rcases (show r < p ∨ r = p ∨ p < r by omega) with q | q | q
        · have := (g3 p hp).1.2.2.2.2.2 r q; omega
        · exact q
        · have := u1.2.2.2.2.2 p q; omega
      subst hpr
      have : j = i := by omega
      subst this
      exact VT_grow hX hv
    · rw [if_neg z]
      rcases hgd _ q with w | w
      · exact VT_grow hX (u7 j hj w)
      · exact absurd w z
