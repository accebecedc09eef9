/-! RUNS, 40: ticks: a call, atom by atom. -/
def tks : Nat → jx_S → jx_S → Prop
  | 0, τ, τ' => τ' = τ
  | n + 1, τ, τ' => ∃ τ1, τ.1 8 14 = 0 ∧ ¬ τ.1 8 11 ≤ 0 ∧ tk1 τ = some τ1 ∧ tks n τ1 τ'
/-- the reference puts off one atom -/
theorem r_168 {ρ ρ1 : jx_S} {t k b m i c a0 g : Nat} {x6 : Int32} {y : Int64} (ht : t < 251) (hk : k < 1200) (hc : c < 1200) (hi : i < m) (hm : m ≤ 8) (hg : g < 40) (hq : ρ.1 106 86 = 0 ∨ x6 = 0 ∨ (ρ.1 123 k = nI g ∧ ρ.1 136 (8 * g + i) = nI 0)) (hp : p_r_putOff (nI c) (nI b) ρ = some (y, ρ1)) (h85 : ρ1.1 106 85 = nI a0) (ha0 : a0 < 4000) : p_r_workName_168_s (nI t) (nI k) (nI b) (nI m) (nI i) x6 (nI c) ρ = if ρ1.1 106 87 = 0 then some (.inl (nI t, nI k, nI b, nI m, nI (i + 1), x6, ρ1.1 120 c, jx_i (jx_l ρ1 166 a0 y) 106 85 (nI (a0 + 1)))) else some (.inr ρ1) := by
  have h238 : p_r_workName_238 (nI t) (nI k) (nI b) (nI m) (nI i) x6 (nI c) ρ = if ρ1.1 106 87 = 0 then some (.inl (nI t, nI k, nI b, nI m, nI (i + 1), x6, ρ1.1 120 c, jx_i (jx_l ρ1 166 a0 y) 106 85 (nI (a0 + 1)))) else some (.inr ρ1) := by
    unfold p_r_workName_238
    rw [hp, Option.bind_some]
    show (if ρ1.1 106 87 = 0 then (if ρ1.1 106 85 < 0 ∨ 4000 ≤ (ρ1.1 106 85).toNatClampNeg then none else (if nI c < 0 ∨ 3000 ≤ (nI c).toNatClampNeg then none else (some (Sum.inl (nI t, nI k, nI b, nI m, nI i + 1, x6, (ρ1.1 120) (nI c).toNatClampNeg, jx_i (jx_l ρ1 166 (ρ1.1 106 85).toNatClampNeg y) 106 85 (ρ1.1 106 85 + 1)))))) else _) = _
    by_cases z : ρ1.1 106 87 = 0
    · rw [if_pos z, if_pos z, h85, if_neg (nI_in ha0 (by omega)), if_neg (nI_in (show c < 3000 by omega) (by omega)), nI_clamp (show c < 2 ^ 31 by omega), nI_clamp (show a0 < 2 ^ 31 by omega), ← nI_succ, ← nI_succ]
    · rw [if_neg z, if_neg z]; rfl
  have hki : ¬ (nI k < 0 ∨ 3000 ≤ k) := fun z => by
    rcases z with z | z
    · exact nI_pos (by omega) z
    · omega
  unfold p_r_workName_168_s
  rw [if_neg (nI_ge hi (by omega)), h238]
  by_cases z1 : ρ.1 106 86 = 0
  · rw [if_pos z1]
  · rw [if_neg z1]
    by_cases z2 : x6 = 0
    · rw [if_pos z2]
    · rw [if_neg z2, nI_clamp (show k < 2 ^ 31 by omega), if_neg hki]
      rcases hq with q | q | ⟨q1, q2⟩
      · exact absurd q z1
      · exact absurd q z2
      · rw [q1, show (8 : Int32) * nI g + nI i = nI (8 * g + i) by rw [show (8 : Int32) = nI 8 from rfl, nI_mul, nI_add], if_neg (nI_in (show 8 * g + i < 320 by omega) (by omega)), nI_clamp (show 8 * g + i < 2 ^ 31 by omega), q2, if_pos (show nI 0 = (0 : Int32) from rfl)]
/-- in the midst of a call -/
def CMd (E : jEn) (G : jGh) (F : Nat) (nS pN bN lN' : Nat → Nat) (ty : Nat → Nat → Nat) (W : Nat → Nat) (D : Nat → jDs) (tk LO : Nat → Nat) (sl sp : Nat → Nat → Nat) (H : jHp) (S : jSt) (i : Nat) (w : Nat → aV) (an : aV) (bt fc st lm go : Nat) (τ ρ : jx_S) : Prop := RU2 E G F nS pN bN lN' ty W D tk LO sl sp H S i an bt fc st lm go τ ρ ∧ BZ H S 0 ∧ τ.1 79 (jSd S - 1) = nI (2 * i) ∧ ρ.1 106 85 = nI (sumN (keptS D S) (jSd S - 1) + i) ∧ ∀ j, j < i → τ.2 81 (8 * (jSd S - 1) + j) = cV (w j) ∧ ρ.2 166 (sumN (keptS D S) (jSd S - 1) + j) = rV (w j) ∧ VT F pN bN ty W H (ty (dG (D (jSk S (jSd S - 1)))) j) (w j)
theorem call_ty {F : Nat} {pN bN : Nat → Nat} {ty : Nat → Nat → Nat} {f : Nat} {W : Nat → Nat} {d : jDs} {k : Nat} (h : okT F pN bN ty f W d k) (hK : dK d = 29) : dG d < F ∧ dM d ≤ pN (dG d) ∧ lfv (pN (dG d)) (dM d) (bN (dG d)) (ty (dG d) (dM d)) (ty (dG d) (dM d + 1)) = nI (W k) ∧ ∀ i, i < dM d → W (dC d i) = ty (dG d) i := by
  unfold okT at h
  rcases h with h | h | h | h | h | h | h | h | h | h
  · omega
  · omega
  · omega
  · omega
  · omega
  · omega
  · omega
  · omega
  · omega
  · exact h.2
/-- a function with a base for its type has all its atoms -/
theorem lfv_all {n m b t1 t2 t : Nat} (ht : t < 2) (h : lfv n m b t1 t2 = nI t) (hb : b < 2) : n - m = 0 ∧ b = t := by
  unfold lfv at h
  by_cases q0 : n - m = 0
  · rw [if_pos q0] at h
    exact ⟨q0, (nI_eq (by omega) (by omega)).1 h⟩
  · rw [if_neg q0] at h
    exfalso
    by_cases q1 : n - m = 1
    · rw [if_pos q1] at h
      split at h
      · have := (nI_eq (by omega) (by omega)).1 h; omega
      · exact absurd h.symm (nI_ne_m1 (by omega))
    · rw [if_neg q1] at h
      by_cases q2 : n - m = 2
      · rw [if_pos q2] at h
        split at h
        · have := (nI_eq (by omega) (by omega)).1 h; omega
        · exact absurd h.symm (nI_ne_m1 (by omega))
      · rw [if_neg q2] at h
        exact absurd h.symm (nI_ne_m1 (by omega))
/-- what is known at the top, in the midst of a tick -/
theorem mid_of {E : jEn} {G : jGh} {F : Nat} {nS pN bN lN' : Nat → Nat} {ty : Nat → Nat → Nat} {W : Nat → Nat} {D : Nat → jDs} {tk LO : Nat → Nat} {sl sp : Nat → Nat → Nat} {H : jHp} {S : jSt} {an : aV} {bt fc st lm go u sg : Nat} {τ ρ : jx_S} (h : RU2 E G F nS pN bN lN' ty W D tk LO sl sp H S u an bt fc st lm go τ ρ) (hd : 0 < jSd S) (c79 : τ.1 79 (jSd S - 1) = nI sg) : tk1 τ = p_cMac_workOn (nI (jSk S (jSd S - 1) + 1)) (nI sg) τ ∧ v_cMac_frame τ = nI (jFb H (jSf S (jSd S - 1))) ∧ SEu E G F nS pN bN lN' ty W D tk LO sl sp H S (jSd S - 1) u ∧ jFf H (jSf S (jSd S - 1)) < F ∧ RNd E G F nS pN bN lN' ty W D tk LO sl sp (jFf H (jSf S (jSd S - 1))) τ ρ (jSk S (jSd S - 1)) ∧ τ.1 8 11 = nI (jSd S) ∧ jSd S ≤ 250 ∧ jSk S (jSd S - 1) < 1200 ∧ (τ.1 8 14 = 0 ∧ ¬ τ.1 8 11 ≤ 0) := by
  obtain ⟨h1, _, ⟨⟨s1, s2, s3⟩, s4, s5⟩, ⟨k1, k2, _⟩, hH, ⟨_, it, _⟩, _⟩ := h
  have hse := it hd
  obtain ⟨t1, t2, t3⟩ := s4 (jSd S - 1) (by omega)
  have hF := (hH.1.2 _ hse.1.1).1
  have hN := (h1.2.2 _ hF).2.2.2.2 _ hse.1.2.1 hse.1.2.2
  have e1 : τ.1 8 11 - 1 = nI (jSd S - 1) := by rw [s1]; exact nI_sub (b := 1) (by omega)
  refine ⟨?_, ?_, hse, hF, hN, s1, s3, hN.1.1, k1, by rw [s1]; exact nI_nle (by omega) (by omega)⟩
  · unfold tk1
    rw [e1, jI_at_in (by omega) (by omega), jI_at_in (by omega) (by omega), t1.1, c79]
  · unfold v_cMac_frame
    rw [e1, jI_at_in (by omega) (by omega), t2.1]
/-- the class: one tick of a call -/
theorem c_callT {τ ρ : jx_S} {E : jEn} {k tk i dp : Nat} {d : jDs} (hA : AN E τ ρ k tk d) (hK : dK d = 29) (hm : dM d ≤ 8) (hi : i ≤ dM d) (h11 : τ.1 8 11 = nI dp) (hd : 0 < dp) (hd2 : dp ≤ 250) (hg : dG d < 40) : p_cMac_workOn (nI (k + 1)) (nI (2 * i)) τ = if i = dM d then p_cMac_workCall_89 (nI (dG d)) (nI ((dp - 1) * 8)) (nI i) 0 τ else if τ.1 8 13 = 0 ∨ ¬ τ.1 59 (30 * dG d + i) = 1 then p_cMac_workCall_197 (nI (k + 1)) (nI (2 * i)) (nI ((dp - 1) * 8)) (nI i) τ else ((p_cTre_part (nI (k + 1)) (nI i) (jI_put 10 τ 71 (9 : Int32) (jI_at 10 (τ.1 71) (9 : Int32) + 1))).bind fun q3 => (p_cMac_beginPart q3.1 (nI (2 * i + 1)) q3.2)) := by
  have hk := hA.1
  obtain ⟨x1, x2⟩ := half (2 * i) (by omega)
  rw [show 2 * i / 2 = i by omega] at x1
  rw [show 2 * i % 2 = 0 by omega] at x2
  obtain ⟨_, h35, _⟩ := hA.2.2.2.2.2.2.2.2.2.2.2.2.1 (by omega)
  have h33 := (hA.2.2.2.2.2.2.2.2.2.2.2.2.2.2.1 hK).2.2
  have e8 : (nI dp - (1 : Int32)) * (8 : Int32) = nI ((dp - 1) * 8) := by
    rw [show nI dp - (1 : Int32) = nI (dp - 1) from nI_sub (b := 1) (by omega), show (8 : Int32) = nI 8 from rfl, nI_mul]
  have est : v_cFun_strictOf (nI (dG d)) (nI i) τ = τ.1 59 (30 * dG d + i) := by
    unfold v_cFun_strictOf
    rw [show nI (dG d) * (30 : Int32) + nI i = nI (dG d * 30 + i) by rw [show (30 : Int32) = nI 30 from rfl, nI_mul, nI_add], jI_at_in (by omega) (by omega), show dG d * 30 + i = 30 * dG d + i by omega]
  rw [c_wo hA (by omega), if_neg (by omega), hK, if_neg (by decide), if_neg (by decide), if_neg (by decide), if_neg (by decide), if_neg (by decide), if_neg (by decide), if_neg (by decide), if_neg (by decide), if_pos (show nI 29 = (29 : Int32) from rfl)]
  have hw : p_cMac_workCall (nI (k + 1)) (nI (2 * i)) τ = if i = dM d then p_cMac_workCall_89 (nI (dG d)) (nI ((dp - 1) * 8)) (nI i) 0 τ else if τ.1 8 13 = 0 ∨ ¬ τ.1 59 (30 * dG d + i) = 1 then p_cMac_workCall_197 (nI (k + 1)) (nI (2 * i)) (nI ((dp - 1) * 8)) (nI i) τ else ((p_cTre_part (nI (k + 1)) (nI i) (jI_put 10 τ 71 (9 : Int32) (jI_at 10 (τ.1 71) (9 : Int32) + 1))).bind fun q3 => (p_cMac_beginPart q3.1 (nI (2 * i + 1)) q3.2)) := by
    unfold p_cMac_workCall
    rw [x2, if_pos (show ¬ nI 0 = (1 : Int32) by decide), x1, jI_at_in (by omega) (by omega), h35, jI_at_in (by omega) (by omega), h33, h11, e8, est]
    by_cases z : i = dM d
    · rw [if_pos z, z, if_neg (fun q => q rfl)]
    · rw [if_neg z, if_pos (fun q => z ((nI_eq (by omega) (by omega)).1 q))]
      by_cases y : τ.1 8 13 = 0
      · rw [if_pos y, if_pos (Or.inl y)]
      · rw [if_neg y]
        by_cases u : ¬ τ.1 59 (30 * dG d + i) = 1
        · rw [if_pos u, if_pos (Or.inr u)]
        · rw [if_neg u, if_neg (fun q => by
            rcases q with q | q
            · exact y q
            · exact u q), show nI (2 * i) + (1 : Int32) = nI (2 * i + 1) from (nI_succ _).symm]
          congr 1
          funext q3
          cases p_cMac_beginPart q3.1 (nI (2 * i + 1)) q3.2 <;> rfl
  rw [hw]
  generalize (if i = dM d then p_cMac_workCall_89 (nI (dG d)) (nI ((dp - 1) * 8)) (nI i) 0 τ else if τ.1 8 13 = 0 ∨ ¬ τ.1 59 (30 * dG d + i) = 1 then p_cMac_workCall_197 (nI (k + 1)) (nI (2 * i)) (nI ((dp - 1) * 8)) (nI i) τ else ((p_cTre_part (nI (k + 1)) (nI i) (jI_put 10 τ 71 (9 : Int32) (jI_at 10 (τ.1 71) (9 : Int32) + 1))).bind fun q3 => (p_cMac_beginPart q3.1 (nI (2 * i + 1)) q3.2))) = X
  cases X <;> rfl
