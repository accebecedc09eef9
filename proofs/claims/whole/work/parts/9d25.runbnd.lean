/-! RUNS, 25: the top binds its slots, and is in its last stage. -/
theorem set_at' {S : jSt} {sg : Nat} : jSg (sSet S sg) (jSd S - 1) = sg := if_pos rfl
def hBnd (D : Nat → jDs) (H : jHp) (k φ : Nat) (v : Nat → aV) : jHp := (H.1, H.2.1, H.2.2.1, H.2.2.2.1, H.2.2.2.2.1, (fun ψ s => if ψ = φ ∧ bsD D k s then v s else jLv H ψ s, fun ψ s => (ψ = φ ∧ bsD D k s) ∨ jLb H ψ s), jOw H)
theorem RU0_bnd {E : jEn} {G : jGh} {F : Nat} {nS pN bN lN' : Nat → Nat} {ty : Nat → Nat → Nat} {W : Nat → Nat} {D : Nat → jDs} {tk LO : Nat → Nat} {sl sp : Nat → Nat → Nat} {H : jHp} {S : jSt} {an : aV} {bt fc st lm go u : Nat} {τ ρ τ' ρ' : jx_S} {v : Nat → aV} (h : RU1 E G F nS pN bN lN' ty W D tk LO sl sp H S u an bt fc st lm go τ ρ) (hu : u ≤ 1) (hd : 0 < jSd S) (hK : dK (D (jSk S (jSd S - 1))) = 5 ∨ dK (D (jSk S (jSd S - 1))) = 10) (hsg : jSg S (jSd S - 1) < 2)
  (hv : ∀ s, bsD D (jSk S (jSd S - 1)) s → VT F pN bN ty W H (ty (jFf H (jSf S (jSd S - 1))) s) (v s))
  (c1 : τ'.1 = (cStg τ (jSd S) 100).1) (c2 : ∀ r, r ≠ 97 → τ'.2 r = τ.2 r) (c3 : ∀ j, (∀ s, bsD D (jSk S (jSd S - 1)) s → j ≠ jFb H (jSf S (jSd S - 1)) + s) → τ'.2 97 j = τ.2 97 j) (c4 : ∀ s, bsD D (jSk S (jSd S - 1)) s → τ'.2 97 (jFb H (jSf S (jSd S - 1)) + s) = cV (v s))
  (d1 : ρ'.1 = (rStg ρ (jSd S) (dK (D (jSk S (jSd S - 1)))) 100).1) (d2 : ∀ r, r ≠ 150 → ρ'.2 r = ρ.2 r) (d3 : ∀ j, (∀ s, bsD D (jSk S (jSd S - 1)) s → j ≠ jFb H (jSf S (jSd S - 1)) + s) → ρ'.2 150 j = ρ.2 150 j) (d4 : ∀ s, bsD D (jSk S (jSd S - 1)) s → ρ'.2 150 (jFb H (jSf S (jSd S - 1)) + s) = rV (v s)) :
  RU0 E G F nS pN bN lN' ty W D tk LO sl sp (hBnd D H (jSk S (jSd S - 1)) (jSf S (jSd S - 1)) v) (sSet S 100) 0 an bt fc st lm go τ' ρ' := by
  have h' := h
  obtain ⟨h1, _, _, _, hH', ⟨i1', it', _⟩, _⟩ := h'
  have hse := it' hd
  have hF := (hH'.1.2 _ hse.1.1).1
  have hN := (h1.2.2 _ hF).2.2.2.2 _ hse.1.2.1 hse.1.2.2
  obtain ⟨hA, hT, _, _, _, _, n5, n10, _, _, _, hkid, huq⟩ := id hN
  have hun : ∀ sg, sg < 100 → unus (dK (D (jSk S (jSd S - 1)))) (dM (D (jSk S (jSd S - 1)))) sg = sg := fun sg q => by unfold unus; rw [if_neg (by omega), if_neg (by omega)]
  have hun1 : unus (dK (D (jSk S (jSd S - 1)))) (dM (D (jSk S (jSd S - 1)))) 100 = dM (D (jSk S (jSd S - 1))) := by unfold unus; rw [if_pos rfl]
  have hm : 2 ≤ dM (D (jSk S (jSd S - 1))) := by
    clear c1 c2 c3 c4 d1 d2 d3 d4 hkid huq
    unfold okT at hT
    rcases hT with w | w | w | w | w | w | w | w | w | w
    · omega
    · omega
    · omega
    · omega
    · omega
    · omega
    · omega
    · omega
    · omega
    · omega
  have hsl : ∀ s, bsD D (jSk S (jSd S - 1)) s → s < lN' (jFf H (jSf S (jSd S - 1))) := fun s q => by
    unfold bsD at q
    rcases q with ⟨q1, q2⟩ | ⟨q1, q2⟩
    · have := (n5 q1).1; omega
    · have := (n10 q1).1; omega
  have hnb := hse.2.2.2.2.2.2.1 hsg
  have hR := RU0_stg (sg := 100) h hd (by omega) (fun _ q => absurd q (by omega)) (Or.inr (Or.inr (Or.inr (Or.inr (Or.inl ⟨by omega, Or.inr rfl⟩))))) (by rw [hun1]; omega) (fun q => by omega)
  clear h
  obtain ⟨_, ⟨hp, hc, hg, ho, ⟨l1, l2, l3⟩⟩, ⟨hs1, hs2, hs3⟩, hk, ⟨hf, ⟨p1, p2⟩, ⟨hl1, hl2⟩, hHc, hHg⟩, ⟨i1, i2, i3, i4⟩, h13⟩ := hR
  have hrow : ∀ r, r ≠ 97 → τ'.2 r = (cStg τ (jSd S) 100).2 r := c2
  have hrow2 : ∀ r, r ≠ 150 → ρ'.2 r = (rStg ρ (jSd S) (dK (D (jSk S (jSd S - 1)))) 100).2 r := d2
  refine ⟨?_, ⟨?_, ?_, ?_, ?_, ⟨?_, ?_, fun ψ hψ s hs hb => ?_⟩⟩, ⟨?_, ?_, ?_⟩, ?_, ⟨hf, ⟨p1, fun i hi => ?_⟩, ⟨fun ψ hψ s hs hb => ?_, fun ψ hψ k k1 k2 hk s hs => ?_⟩, hHc, hHg⟩, ⟨fun d hd' => ?_, fun d hd' => ?_, i3, i4⟩, ?_⟩
  · refine RP_keep h1 (fun r hr => ?_) (c2 19 (by omega)) (fun r hr => ?_)
    · rw [c1]; exact s_p_ne (fun z => by subst z; revert hr; decide)
    · rw [d1]; exact s_i_ne (fun z => by subst z; revert hr; decide)
  · unfold RPu at hp ⊢; rw [c1, d1, hrow 95 (by omega), hrow2 154 (by omega)]; exact hp
  · unfold RCe at hc ⊢; rw [c1, d1, hrow 85 (by omega), hrow 87 (by omega), hrow2 155 (by omega), hrow2 156 (by omega)]; exact hc
  · unfold RPa at hg ⊢; rw [c1, d1, hrow 101 (by omega), hrow2 157 (by omega)]; exact hg
  · unfold RGo at ho ⊢; rw [c1, d1, hrow 99 (by omega), hrow2 160 (by omega)]; exact ho
  · rw [c1]; exact l1
  · rw [d1]; exact l2
  · show τ'.2 97 (jFb H ψ + s) = cV (if ψ = jSf S (jSd S - 1) ∧ bsD D (jSk S (jSd S - 1)) s then v s else jLv H ψ s) ∧ ρ'.2 150 (jFb H ψ + s) = rV (if ψ = jSf S (jSd S - 1) ∧ bsD D (jSk S (jSd S - 1)) s then v s else jLv H ψ s)
    by_cases z : ψ = jSf S (jSd S - 1) ∧ bsD D (jSk S (jSd S - 1)) s
    · rw [if_pos z, z.1]
      exact ⟨c4 s z.2, d4 s z.2⟩
    · rw [if_neg z]
      have hb' : jLb H ψ s := by
        rcases hb with q | q
        · exact absurd q z
        · exact q
      have hs' : s < lN' (jFf H ψ) := hs
      have hne : ∀ s', bsD D (jSk S (jSd S - 1)) s' → jFb H ψ + s ≠ jFb H (jSf S (jSd S - 1)) + s' := fun s' q e => by
        have q2 := hsl s' q
        rcases (show ψ = jSf S (jSd S - 1) ∨ ψ < jSf S (jSd S - 1) ∨ jSf S (jSd S - 1) < ψ by omega) with y | y | y
        · subst y
          have : s = s' := by omega
          subst this
          exact z ⟨rfl, q⟩
        · have := (hf.2 _ hse.1.1).2.2 ψ y; omega
        · have := (hf.2 ψ hψ).2.2 _ y; omega
      rw [c3 _ hne, d3 _ hne]
      exact l3 ψ hψ s hs' hb'
  · rw [c1, d1]; exact hs1
  · rw [d1]; exact hs2
  · rw [c1, d1, hrow 81 (by omega), hrow2 165 (by omega), hrow2 166 (by omega)]; exact hs3
  · unfold RSc at hk ⊢; rw [c1, d1]; exact hk
  · obtain ⟨u1, u2, u3, u4, u5, u6, u7⟩ := p2 i hi
    exact ⟨u1, u2, u3, fun s q => Or.inr (u4 s q), u5, u6, u7⟩
  · show VT F pN bN ty W H (ty (jFf H ψ) s) (if ψ = jSf S (jSd S - 1) ∧ bsD D (jSk S (jSd S - 1)) s then v s else jLv H ψ s)
    by_cases z : ψ = jSf S (jSd S - 1) ∧ bsD D (jSk S (jSd S - 1)) s
    · rw [if_pos z, z.1]; exact hv s z.2
    · rw [if_neg z]
      rcases hb with q | q
      · exact absurd q z
      · exact hl1 ψ hψ s hs q
  · intro hb
    rcases hb with ⟨q1, q2⟩ | q
    · subst q1
      have := (huq s q2).2 k k1 k2 hs
      subst this
      exact hk hse.2.2.2.1
    · exact hl2 ψ hψ k k1 k2 hk s hs q
  · have hd2 : d < jSd S := hd'
    obtain ⟨t1, t2, t3, t4, t5, t6, t7, t8, t9⟩ := i1 d hd'
    refine ⟨t1, t2, fun s q => Or.inr (t3 s q), t4, t5, t6, fun q s hs hb => ?_, t8, t9⟩
    rcases hb with ⟨q1, q2⟩ | q3
    · have hs' : bsD D (jSk S d) s := hs
      have q1' : jSf S d = jSf S (jSd S - 1) := q1
      by_cases z : d = jSd S - 1
      · rw [z, set_at'] at q; omega
      · have hdk := i1' d (by omega)
        have hk1 := (huq s q2).2 (jSk S d) (by have := hdk.1.2.1; rw [q1'] at this; exact this) (by have := hdk.1.2.2; rw [q1'] at this; exact this) hs'
        have q' : jSg S d < 2 := by
          have e3 : jSg (sSet S 100) d = jSg S d := if_neg z
          rw [e3] at q; exact q
        have hlo : LO (dC (D (jSk S (jSd S - 1))) 1) ≤ dC (D (jSk S (jSd S - 1))) 1 := by
          obtain ⟨z1, z2⟩ := kid_in hN (show 1 < dM (D (jSk S (jSd S - 1))) by omega)
          have z3 := (hkid 1 (by omega)).1
          have hN' := (h1.2.2 _ hF).2.2.2.2 (dC (D (jSk S (jSd S - 1))) 1) (by omega) (by have := hse.1.2.2; omega)
          exact hN'.2.2.2.2.2.2.2.2.2.2.1.2.1
        have o1 := hdk.2.2.2.2.2.1 1 (by rw [hk1, hun _ (by omega)]; omega) (by rw [hk1]; omega) (dC (D (jSk S d)) 1) (by rw [hk1]; exact hlo) (Nat.le_refl _)
        have o2 := hse.2.2.2.2.2.1 1 hu (by omega) (dC (D (jSk S (jSd S - 1))) 1) hlo (Nat.le_refl _)
        rw [hk1, q1', o2] at o1
        omega
    · exact t7 q s hs q3
  · obtain ⟨⟨w1, w2, w3⟩, w4⟩ := i2 d hd'
    refine ⟨⟨w1, fun q1 q2 => ?_, w3⟩, w4⟩
    obtain ⟨w5, w6⟩ := w2 q1 q2
    refine ⟨w5, ?_⟩
    have hd2 : d + 1 < jSd S := hd'
    show (if jSf S d = jSf S (jSd S - 1) ∧ bsD D (jSk S (jSd S - 1)) (dS (D (jSk S d))) then v (dS (D (jSk S d))) else jLv H (jSf S d) (dS (D (jSk S d)))) = _
    rw [if_neg]
    · exact w6
    · intro q
      have hdk := i1' d (by omega)
      have hF2 := (hH'.1.2 _ hdk.1.1).1
      have hN2 := (h1.2.2 _ hF2).2.2.2.2 _ hdk.1.2.1 hdk.1.2.2
      have q1' : dK (D (jSk S d)) = 28 := q1
      have := hdk.2.2.1 _ (hN2.2.2.2.2.2.2.2.2.1 q1').2
      rw [q.1] at this
      exact hnb _ q.2 this
  · rw [c1]; exact h13
