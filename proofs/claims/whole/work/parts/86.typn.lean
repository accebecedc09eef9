/-! TYPING, 2: nodes as they stay; the small steps. -/
def NdS (E : jEn) (G : jGh) (τ ρ : jx_S) (k o tk m lo s : Nat) (cs : Nat → Nat) : Prop :=
  ρ.1 112 k = nI o ∧ ρ.1 113 k = nI tk ∧ τ.1 25 (k + 1) = nI tk ∧ tk < eC E ∧ eK E tk = o ∧ arOK o m ∧
  τ.1 23 (k + 1) = nI (if o = 1 then (if ρ.1 117 k = -1 then 29 else 28) else o) ∧
  ρ.1 121 k = nI lo ∧ lo ≤ k ∧ (m = 0 → lo = k) ∧ (0 < m → cs (m - 1) + 1 = k) ∧
  τ.1 27 (k + 1) = nI (if 0 < m then cs 0 + 1 else 0) ∧
  ρ.1 119 k = nI (if o = 1 then m else 0) ∧ τ.1 35 (k + 1) = nI (if o = 1 then m else 0) ∧
  (o = 1 → ρ.1 117 k = -1 ∨ (ρ.1 117 k = nI s ∧ τ.1 33 (k + 1) = nI s ∧ gV G k s)) ∧
  (0 < m → ρ.1 114 k = nI (cs 0)) ∧ (o ≠ 1 → 1 < m → ρ.1 115 k = nI (cs 1)) ∧ (o ≠ 1 → 2 < m → ρ.1 116 k = nI (cs 2)) ∧
  (o = 5 → ρ.1 117 k = nI s ∧ τ.1 33 (k + 1) = nI s ∧ s = gB G k) ∧
  (o = 10 → ρ.1 117 k = nI s ∧ ρ.1 118 k = nI (s + 1) ∧ τ.1 33 (k + 1) = nI s ∧ s = gD G (cs 1)) ∧
  (∀ s', gV G k s' → s' < gB G k) ∧ gB G k ≤ gD G k ∧ gD G k ≤ 30 ∧ gD G k = (if m = 0 then gB G k else gD G (cs (m - 1)))
def NodeS (E : jEn) (G : jGh) (τ ρ : jx_S) (k : Nat) : Prop := ∃ (o tk m lo s : Nat) (cs : Nat → Nat), NdS E G τ ρ k o tk m lo s cs ∧ ∀ i, i < m → NdC E G τ ρ k o m lo s cs i
theorem NodeS_of {E : jEn} {G : jGh} {τ ρ : jx_S} {k : Nat} (h : NodeOK E G τ ρ k) : NodeS E G τ ρ k := by
  obtain ⟨o, tk, m, lo, s, cs, hA, hC⟩ := h
  obtain ⟨c1, c2, c3, c4, c5, c6, c7, c8, c9, c10, c11, c12, c13, c14, c15, c16⟩ := hA
  exact ⟨o, tk, m, lo, s, cs, ⟨c1, c2, c3, c4, c5, c6, c7, c8, c9, c10, c11, c12, c13, c14, fun q => by
    rcases c15 q with q2 | q2
    · exact Or.inl q2.1
    · exact Or.inr q2, c16⟩, hC⟩
def crS : List Nat := [23, 25, 27, 29, 31, 35]
def rrS : List Nat := [112, 113, 114, 115, 116, 117, 118, 119, 120, 121, 122]
theorem NodeS_keep {E : jEn} {G : jGh} {τ ρ τ' ρ' : jx_S} (h1 : same crS τ τ') (h2 : same rrS ρ ρ') (h3 : ∀ j, ρ.1 112 j ≠ nI 1 ∨ ρ.1 117 j ≠ -1 → τ'.1 33 (j + 1) = τ.1 33 (j + 1)) {k : Nat} (h : NodeS E G τ ρ k) : NodeS E G τ' ρ' k := by
  obtain ⟨o, tk, m, lo, s, cs, hA, hC⟩ := h
  refine ⟨o, tk, m, lo, s, cs, ?_, fun i hi => ?_⟩
  · have n1 : ∀ x : Nat, x < 2 ^ 31 → nI x ≠ -1 := fun x hx q => by
      have := mF_eq hx
      rw [show (-nI 1 : Int32) = -1 from rfl] at this
      rw [q] at this
      simp at this
    unfold NdS at hA ⊢
    rw [h1 25 (by decide), h1 23 (by decide), h1 27 (by decide), h1 35 (by decide), h2 112 (by decide), h2 113 (by decide), h2 117 (by decide), h2 121 (by decide), h2 119 (by decide), h2 114 (by decide), h2 115 (by decide), h2 116 (by decide), h2 118 (by decide)]
    obtain ⟨c1, c2, c3, c4, c5, c6, c7, c8, c9, c10, c11, c12, c13, c14, c15, c16, c17, c18, c19, c20, c21, c22, c23, c24⟩ := hA
    refine ⟨c1, c2, c3, c4, c5, c6, c7, c8, c9, c10, c11, c12, c13, c14, fun q => ?_, c16, c17, c18, fun q => ?_, fun q => ?_, c21, c22, c23, c24⟩
    · rcases c15 q with q2 | ⟨q2, q3, q4⟩
      · exact Or.inl q2
      · refine Or.inr ⟨q2, ?_, q4⟩
        rw [h3 k (Or.inr (by rw [q2]; exact n1 s (by have := c21 s q4; omega)))]; exact q3
    · obtain ⟨q2, q3, q4⟩ := c19 q
      refine ⟨q2, ?_, q4⟩
      rw [h3 k (Or.inl (by rw [c1, q]; decide))]; exact q3
    · obtain ⟨q2, q3, q4, q5⟩ := c20 q
      refine ⟨q2, q3, ?_, q5⟩
      rw [h3 k (Or.inl (by rw [c1, q]; decide))]; exact q4
  · have hc := hC i hi
    unfold NdC at hc ⊢
    rw [h1 31 (by decide), h1 29 (by decide), h2 121 (by decide), h2 122 (by decide), h2 120 (by decide)]
    exact hc
/-- the tables of the functions, by numbers -/
def FD (E : jEn) (F : Nat) (pN bN lN' tk : Nat → Nat) (ty : Nat → Nat → Nat) (τ ρ : jx_S) : Prop := ∀ g, g < F → τ.1 43 g = nI (pN g) ∧ ρ.1 127 g = nI (pN g) ∧ pN g ≤ 8 ∧ τ.1 45 g = nI (bN g) ∧ ρ.1 128 g = nI (bN g) ∧ bN g < 2 ∧ pN g ≤ lN' g ∧ lN' g ≤ 30 ∧ (∀ i, i < lN' g → ty g i < 14 ∧ τ.1 57 (30 * g + i) = nI (ty g i) ∧ ρ.1 137 (30 * g + i) = nI (ty g i)) ∧ (∀ i, i < pN g → ρ.1 135 (8 * g + i) = nI (ty g i)) ∧ τ.1 41 g = nI (tk g) ∧ ρ.1 126 g = nI (tk g) ∧ tk g < eC E ∧ eK E (tk g) = 1
def baseN (ρ : jx_S) (g : Nat) : Nat := (ρ.1 128 g).toNatClampNeg
def locN (ρ : jx_S) (g : Nat) : Nat := (ρ.1 129 g).toNatClampNeg
def tyN (ρ : jx_S) (g i : Nat) : Nat := (ρ.1 137 (30 * g + i)).toNatClampNeg
theorem FD_of {E : jEn} {G : jGh} {F N : Nat} {nS tS : Nat → Nat} {τ ρ : jx_S} (h : TreeOK E G F N nS tS τ ρ) : FD E F (parN ρ) (baseN ρ) (locN ρ) tS (tyN ρ) τ ρ := by
  obtain ⟨h1, h2, h3, h4, h5, h6⟩ := h
  intro g hg
  obtain ⟨a1, a2, a3, p, b, l, ⟨⟨f1, f2, f3⟩, f4, f5, f6, f7, f8, f9, f10, f11, f12, f13, f14, f15, f16, _⟩, k1, k2, k3, k4, _⟩ := h6 g hg
  have ep : parN ρ g = p := by unfold parN; rw [f2]; exact nI_clamp (by omega)
  have eb : baseN ρ g = b := by unfold baseN; rw [f8]; exact nI_clamp (by omega)
  have el : locN ρ g = l := by unfold locN; rw [f11]; exact nI_clamp (by omega)
  have et : ∀ i, i < l → tyN ρ g i < 14 ∧ τ.1 57 (30 * g + i) = nI (tyN ρ g i) ∧ ρ.1 137 (30 * g + i) = nI (tyN ρ g i) := fun i hi => by
    obtain ⟨ty, w1, w2, w3, w4⟩ := f16 i hi
    have e : tyN ρ g i = ty := by unfold tyN; rw [w3]; exact nI_clamp (by omega)
    rw [e]
    exact ⟨w1, w2, w3⟩
  rw [ep, eb, el]
  refine ⟨f1, f2, f4, f7, f8, f9, f5, f6, et, fun i hi => ?_, k1, k2, k3, k4⟩
  obtain ⟨t, w1, w2, w3, w4, w5⟩ := f3 i hi
  rw [w5]
  exact (et i (by omega)).2.1
/-- the class puts what is wanted of up to three parts -/
theorem q_wantParts {τ : jx_S} {k m : Nat} {cs : Nat → Nat} (hk : k < 1200) (hm : m ≤ 3) (h27 : τ.1 27 (k + 1) = nI (if 0 < m then cs 0 + 1 else 0)) (hcs : ∀ j, j < m → cs j < 1200 ∧ τ.1 29 (cs j + 1) = nI (if j + 1 < m then cs (j + 1) + 1 else 0)) (hinc : ∀ i j, i < j → j < m → cs i ≠ cs j) (a b c : Int32) :
    ∃ τ', p_cTyp_wantParts (nI (k + 1)) a b c τ = some τ' ∧ (∀ r, r ≠ 37 → τ'.1 r = τ.1 r) ∧ τ'.2 = τ.2 ∧ (0 < m → τ'.1 37 (cs 0 + 1) = a) ∧ (1 < m → τ'.1 37 (cs 1 + 1) = b) ∧ (2 < m → τ'.1 37 (cs 2 + 1) = c) ∧ ∀ j, j ≠ 0 → (∀ i, i < m → j ≠ cs i + 1) → τ'.1 37 j = τ.1 37 j := by
  have P : ∀ (σ : jx_S), σ.1 27 = τ.1 27 → σ.1 29 = τ.1 29 → ∀ i, i < 3 → p_cTre_part (nI (k + 1)) (nI i) σ = some (nI (if i < m then cs i + 1 else 0), σ) := fun σ h1 h2 i hi => q_part hk (by omega) (by omega) (by rw [h1]; exact h27) (fun j hj => ⟨(hcs j hj).1, by rw [h2]; exact (hcs j hj).2⟩)
  have ix : ∀ i, (if i < m then cs i + 1 else 0) < 1201 := fun i => by
    split
    · rename_i q; have := (hcs i q).1; omega
    · omega
  unfold p_cTyp_wantParts
  rw [show p_cTre_part (nI (k + 1)) (0 : Int32) τ = some (nI (if 0 < m then cs 0 + 1 else 0), τ) from P τ rfl rfl 0 (by omega), Option.bind_some]
  dsimp only
  rw [show p_cTre_part (nI (k + 1)) (1 : Int32) (jI_put 1201 τ 37 (nI (if 0 < m then cs 0 + 1 else 0)) a) = some (nI (if 1 < m then cs 1 + 1 else 0), _) from P _ (s_p_ne (by decide)) (s_p_ne (by decide)) 1 (by omega), Option.bind_some]
  dsimp only
  rw [show p_cTre_part (nI (k + 1)) (2 : Int32) (jI_put 1201 (jI_put 1201 τ 37 (nI (if 0 < m then cs 0 + 1 else 0)) a) 37 (nI (if 1 < m then cs 1 + 1 else 0)) b) = some (nI (if 2 < m then cs 2 + 1 else 0), _) from P _ ((s_p_ne (by decide)).trans (s_p_ne (by decide))) ((s_p_ne (by decide)).trans (s_p_ne (by decide))) 2 (by omega), Option.bind_some]
  have e37 : (jI_put 1201 (jI_put 1201 (jI_put 1201 τ 37 (nI (if 0 < m then cs 0 + 1 else 0)) a) 37 (nI (if 1 < m then cs 1 + 1 else 0)) b) 37 (nI (if 2 < m then cs 2 + 1 else 0)) c).1 37 = upd (upd (upd (τ.1 37) (if 0 < m then cs 0 + 1 else 0) a) (if 1 < m then cs 1 + 1 else 0) b) (if 2 < m then cs 2 + 1 else 0) c := by
    rw [s_p_eq, s_p_eq, s_p_eq, jI_up_in (ix 2) (by omega), jI_up_in (ix 1) (by omega), jI_up_in (ix 0) (by omega)]
  refine ⟨_, rfl, fun r hr => by rw [s_p_ne hr, s_p_ne hr, s_p_ne hr], rfl, fun h0 => ?_, fun h1 => ?_, fun h2 => ?_, fun j hj hc => ?_⟩
  · rw [e37, u_ne, u_ne, u_eq]
    · rw [if_pos h0]
    · by_cases q : 1 < m
      · rw [if_pos q]; have := hinc 0 1 (by omega) q; omega
      · rw [if_neg q]; omega
    · by_cases q : 2 < m
      · rw [if_pos q]; have := hinc 0 2 (by omega) q; omega
      · rw [if_neg q]; omega
  · rw [e37, u_ne, u_eq]
    · rw [if_pos h1]
    · by_cases q : 2 < m
      · rw [if_pos q]; have := hinc 1 2 (by omega) q; omega
      · rw [if_neg q]; omega
  · rw [e37, u_eq]
    rw [if_pos h2]
  · rw [e37, u_ne, u_ne, u_ne]
    · split
      · rename_i q; exact hc 0 q
      · exact hj
    · split
      · rename_i q; exact hc 1 q
      · exact hj
    · split
      · rename_i q; exact hc 2 q
      · exact hj
/-- the reference wants one more -/
theorem q_r_want (ρ : jx_S) (q : Nat) (x y : Int32) (h : ρ.1 106 55 = nI q) (hq : q < 3000) : p_r_want x y ρ = some (jx_i (jx_i (jx_i ρ 144 q x) 145 q y) 106 55 (nI (q + 1))) := by
  unfold p_r_want
  simp (disch := first | assumption | decide | omega) only [h, nI_lit, cT_lt, cF_lt, cT_le, cF_le, cT_eq, cF_eq, nF_le, mF_eq, mG_eq, mT_lt, eq_self, nI_clamp, nI_add, Nat.add_zero, nI_sub, s_i_ne, s_i_eq, s_i_2, s_l_1, s_l_ne, s_l_eq, s_p_ne, s_p_eq, s_p_2, s_q_1, s_q_ne, s_q_eq, u_ne, u_eq, v_ne, v_eq, w_ne, w_eq, jI_at_in, jL_at_in, false_or, or_false, true_or, or_true, true_and, and_true, false_and, and_false, not_true_eq_false, not_false_eq_true, ↓reduceIte, Option.bind_some, Option.map_some]
