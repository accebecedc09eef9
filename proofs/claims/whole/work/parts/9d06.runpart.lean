/-! RUNS, 6: a function with some of its parameters: what is laid down at once. -/
/-- the reference's list of what is to be put off -/
theorem r_push {ρ : jx_S} {m q nA nG : Nat} {cs : Nat → Nat} (hm : m ≤ 8) (hq : q + m ≤ 3000) (hcs : ∀ i, i < m → cs i < 1200) (h120 : ∀ i, i + 1 < m → ρ.1 120 (cs i) = nI (cs (i + 1))) (h101 : ρ.1 106 101 = nI q) (h76 : ρ.1 106 76 = nI nA) (h74 : ρ.1 106 74 = nI nG) (hA : nA ≤ 6000) (hG : nG ≤ 6000) (x : Int32) (hx : 0 < m → x = nI (cs 0)) : ∃ ρ', p_r_putFunction_106 (nI m) x 0 ρ = some (rV (5, nI nG), jx_i (jx_i (jx_i ρ' 106 101 (nI (q + m))) 106 76 (nI (nA + m))) 106 74 (nI (nG + 1))) ∧ (∀ r, r ≠ 169 → r ≠ 170 → ρ'.1 r = ρ.1 r) ∧ ρ'.2 = ρ.2 ∧ (∀ j, j < q → ρ'.1 169 j = ρ.1 169 j ∧ ρ'.1 170 j = ρ.1 170 j) ∧ ∀ k, k < m → ρ'.1 169 (q + (m - 1 - k)) = nI (cs k) ∧ ρ'.1 170 (q + (m - 1 - k)) = nI (nA + k) := by
  unfold p_r_putFunction_106
  obtain ⟨s1, ⟨x', ρ', rfl, hk, h2, hlo, hin, _⟩, e⟩ := loop_invx (f := fun s : Int32 × Int32 × Int32 × jx_S => p_r_putFunction_106_s s.1 s.2.1 s.2.2.1 s.2.2.2) (fun k s => ∃ x' ρ', s = (nI m, x', nI k, ρ') ∧ (∀ r, r ≠ 169 → r ≠ 170 → ρ'.1 r = ρ.1 r) ∧ ρ'.2 = ρ.2 ∧ (∀ j, j < q → ρ'.1 169 j = ρ.1 169 j ∧ ρ'.1 170 j = ρ.1 170 j) ∧ (∀ k', k' < k → ρ'.1 169 (q + (m - 1 - k')) = nI (cs k') ∧ ρ'.1 170 (q + (m - 1 - k')) = nI (nA + k')) ∧ (k < m → x' = nI (cs k))) m (fun k s hk h => by
    obtain ⟨x', ρ', rfl, hf, h2, hlo, hin, hx'⟩ := h
    have h106 : ρ'.1 106 = ρ.1 106 := hf 106 (by decide) (by decide)
    show ∃ s1, p_r_putFunction_106_s (nI m) x' (nI k) ρ' = _ ∧ _
    unfold p_r_putFunction_106_s
    have ep : ((nI q + nI m) - (1 : Int32)) - nI k = nI (q + (m - 1 - k)) := by
      rw [nI_add, show nI (q + m) - (1 : Int32) = nI (q + m - 1) from nI_sub (b := 1) (by omega), nI_sub (by omega), show q + m - 1 - k = q + (m - 1 - k) by omega]
    have hc := hcs k hk
    rw [if_neg (nI_ge hk (by omega)), h106, h101, ep, if_neg (nI_in (show q + (m - 1 - k) < 3000 by omega) (by omega)), if_neg (nI_in (show q + (m - 1 - k) < 3000 by omega) (by omega)), hx' hk, if_neg (nI_in (show cs k < 3000 by omega) (by omega)), nI_clamp (show q + (m - 1 - k) < 2 ^ 31 by omega), nI_clamp (show cs k < 2 ^ 31 by omega), h76, nI_add]
    refine ⟨_, rfl, ρ'.1 120 (cs k), jx_i (jx_i ρ' 169 (q + (m - 1 - k)) (nI (cs k))) 170 (q + (m - 1 - k)) (nI (nA + k)), by rw [← nI_succ], fun r a b => ?_, h2, fun j hj => ?_, fun k' hk' => ?_, fun hk1 => ?_⟩
    · rw [s_i_ne b, s_i_ne a]; exact hf r a b
    · constructor
      · rw [s_i_ne (by decide), s_i_eq, u_ne (by omega)]; exact (hlo j hj).1
      · rw [s_i_eq, u_ne (by omega), s_i_ne (by decide)]; exact (hlo j hj).2
    · by_cases z : k' = k
      · subst z
        constructor
        · rw [s_i_ne (by decide), s_i_eq, u_eq rfl]
        · rw [s_i_eq, u_eq rfl]
      · obtain ⟨u1, u2⟩ := hin k' (by omega)
        constructor
        · rw [s_i_ne (by decide), s_i_eq, u_ne (by omega)]; exact u1
        · rw [s_i_eq, u_ne (by omega), s_i_ne (by decide)]; exact u2
    · rw [hf 120 (by decide) (by decide)]; exact h120 k hk1) (s := (nI m, x, (0 : Int32), ρ)) ⟨x, ρ, rfl, fun _ _ _ => rfl, rfl, fun _ _ => ⟨rfl, rfl⟩, fun k hk => by omega, hx⟩ (X := fun s => some (rV (5, nI nG), jx_i (jx_i (jx_i s.2.2.2 106 101 (nI (q + m))) 106 76 (nI (nA + m))) 106 74 (nI (nG + 1)))) (fun s hs => by
    obtain ⟨x', ρ', rfl, hf, h2, hlo, hin, hx'⟩ := hs
    have h106 : ρ'.1 106 = ρ.1 106 := hf 106 (by decide) (by decide)
    show p_r_putFunction_106_s (nI m) x' (nI m) ρ' = _
    unfold p_r_putFunction_106_s
    rw [if_pos (nI_le (Nat.le_refl _) (by omega)), h106, h101, h76, h74, nI_add, nI_add, show nI nG + (1 : Int32) = nI (nG + 1) from (nI_succ nG).symm, show nI (nG + 1) - (1 : Int32) = nI nG from nI_pred nG]
    rfl) (n := 100000000) (by omega)
  exact ⟨ρ', e, hk, h2, hlo, hin⟩
/-- the class's partial -/
def cPart (τ : jx_S) (nG nA m : Nat) (v : aV) : jx_S := jx_i (jx_i (jI_put 6000 (jI_put 6000 (jL_put 6000 τ 101 (nI nG) (cV v)) 103 (nI nG) (nI nA)) 105 (nI nG) (nI m)) 9 15 (nI (nA + m))) 9 16 (nI (nG + 1))
def c127 (rec : Int32 → Int32 → jx_S → Option (Int64 × jx_S)) : Int32 × Int32 × Int32 × Int32 × Int32 × Int32 × jx_S → Option ((Int32 × Int32 × Int32 × Int32 × Int32 × Int32 × jx_S) ⊕ (Int64 × jx_S)) := fun s => p_cMac_putOffFunction_127_s rec s.1 s.2.1 s.2.2.1 s.2.2.2.1 s.2.2.2.2.1 s.2.2.2.2.2.1 (s.2.2.2.2.2.2)
/-- what a name with atoms is before it gets them -/
def bfV (D : Nat → jDs) (H : jHp) (φ c : Nat) : aV := if dK (D c) = 29 then (4, nI (dG (D c))) else jLv H φ (dS (D c))
theorem c_part1 {E : jEn} {G : jGh} {F : Nat} {nS pN bN lN' : Nat → Nat} {ty : Nat → Nat → Nat} {W : Nat → Nat} {D : Nat → jDs} {tk LO : Nat → Nat} {sl sp : Nat → Nat → Nat} {g c b nG nA : Nat} {v : aV} {τ ρ : jx_S} (hN : RNd E G F nS pN bN lN' ty W D tk LO sl sp g τ ρ c) (hW : 2 ≤ W c) (hm : 0 < dM (D c)) (hm8 : dM (D c) ≤ 8) (h15 : τ.1 9 15 = nI nA) (h16 : τ.1 9 16 = nI nG) (hA : nA ≤ 6000) (hG : nG ≤ 6000) (hf : v_cMac_frame τ = nI b) (hv : dK (D c) = 29 → v = (4, nI (dG (D c)))) (hv2 : dK (D c) = 28 → b + dS (D c) < 30000 ∧ τ.2 97 (b + dS (D c)) = cV v) (rec : Int32 → Int32 → jx_S → Option (Int64 × jx_S)) (w : Int32) : p_cMac_putOff_91 rec (nI (c + 1)) w τ = if nA + dM (D c) ≤ 6000 then ((jx_loop 100000000 (c127 rec) (nI (c + 1), w, nI (dM (D c)), nI nA, nI nG, 0, cPart τ nG nA (dM (D c)) v)).bind fun q2 => some (q2.1, q2.2)) else some (0, jx_i τ 8 14 5) := by
  obtain ⟨hA', hT, hW14, h37, h124, _⟩ := hN
  obtain ⟨a1, a2, a3, a4, a5, a6, a7, a8, a9, a10, a11, a12, a13, a14, a15, _⟩ := hA'
  have hkk := ot_kind hT hW
  clear hT
  obtain ⟨e3, e4, _⟩ := a13 (by omega)
  have h72 : p_cMac_putOffFunction_72 rec (nI (c + 1)) w (nI (dM (D c))) (cV v) τ = if nA + dM (D c) ≤ 6000 then (jx_loop 100000000 (c127 rec) (nI (c + 1), w, nI (dM (D c)), nI nA, nI nG, 0, cPart τ nG nA (dM (D c)) v)) else some (0, jx_i τ 8 14 5) := by
    unfold p_cMac_putOffFunction_72 p_cHea_addPartial
    rw [if_pos (nI_ne0 (by omega) (by omega)), h15, h16, nI_add]
    by_cases z : nA + dM (D c) ≤ 6000
    · rw [if_pos (show nI (nA + dM (D c)) ≤ (6000 : Int32) from (nI_le z (by omega) : nI (nA + dM (D c)) ≤ nI 6000)), if_pos z, Option.bind_some, show nI nG + (1 : Int32) = nI (nG + 1) from (nI_succ nG).symm, show nI (nG + 1) - (1 : Int32) = nI nG from nI_pred nG]
      rfl
    · rw [if_neg (show ¬ nI (nA + dM (D c)) ≤ (6000 : Int32) from (nI_ge (by omega) (by omega) : ¬ nI (nA + dM (D c)) ≤ nI 6000)), if_neg z]
  unfold p_cMac_putOff_91 p_cMac_putOffFunction
  rw [jI_at_in (by omega) (by omega), h37, c_isBase τ hW14, if_neg (show ¬ W c < 2 by omega), if_neg (show ¬ ¬ (0 : Int32) = 0 from fun q => q rfl), jI_at_in (by omega) (by omega), a5, jI_at_in (by omega) (by omega), e4, jI_at_in (by omega) (by omega)]
  rcases hkk with k | k
  · obtain ⟨q1, q2⟩ := hv2 k
    rw [if_pos (show ¬ nI (dK (D c)) = (29 : Int32) by rw [k]; decide), (a14 k).2, hf, nI_add, jL_at_in q1 (by omega), q2, h72]
    split <;> rfl
  · have q := hv k
    subst q
    rw [if_neg (show ¬ ¬ nI (dK (D c)) = (29 : Int32) by rw [k]; exact fun q => q rfl), (a15 k).2.2, show v_cHea_hold (5 : Int32) (nI (dG (D c))) τ = cV (4, nI (dG (D c))) from rfl, h72]
    split <;> rfl
theorem r_part1 {E : jEn} {G : jGh} {F : Nat} {nS pN bN lN' : Nat → Nat} {ty : Nat → Nat → Nat} {W : Nat → Nat} {D : Nat → jDs} {tk LO : Nat → Nat} {sl sp : Nat → Nat → Nat} {g c b nG nA q : Nat} {v : aV} {τ ρ : jx_S} (hN : RNd E G F nS pN bN lN' ty W D tk LO sl sp g τ ρ c) (hW : 2 ≤ W c) (hm : 0 < dM (D c)) (hm8 : dM (D c) ≤ 8) (h76 : ρ.1 106 76 = nI nA) (h74 : ρ.1 106 74 = nI nG) (h101 : ρ.1 106 101 = nI q) (hq : q + 8 ≤ 3000) (hA : nA ≤ 6000) (hG : nG ≤ nA) (hv : dK (D c) = 29 → v = (4, nI (dG (D c)))) (hv2 : dK (D c) = 28 → b + dS (D c) < 30000 ∧ ρ.2 150 (b + dS (D c)) = rV v) : p_r_putOne (nI c) (nI b) ρ = if nA + dM (D c) ≤ 6000 then p_r_putFunction_106 (nI (dM (D c))) (ρ.1 114 c) 0 (jx_i (jx_i (jx_l ρ 157 nG (rV v)) 158 nG (nI nA)) 159 nG (nI (dM (D c)))) else some (0, jx_i ρ 106 87 5) := by
  obtain ⟨hA', hT, hW14, h37, h124, _⟩ := hN
  obtain ⟨a1, a2, a3, a4, a5, a6, a7, a8, a9, a10, a11, a12, a13, a14, a15, _⟩ := hA'
  have hkk := ot_kind hT hW
  clear hT
  obtain ⟨e3, e4, _⟩ := a13 (by omega)
  have hni : ¬ (nI c < 0 ∨ 3000 ≤ c) := fun z => by
    rcases z with z | z
    · exact nI_pos (by omega) z
    · omega
  have hgt : ¬ nI (W c) ≤ (1 : Int32) := (nI_ge (by omega) (by omega) : ¬ nI (W c) ≤ nI 1)
  have h71 : nA + dM (D c) ≤ 6000 → p_r_putFunction_71 (nI c) (nI (dM (D c))) (rV v) (nI nG) ρ = p_r_putFunction_106 (nI (dM (D c))) (ρ.1 114 c) 0 (jx_i (jx_i (jx_l ρ 157 nG (rV v)) 158 nG (nI nA)) 159 nG (nI (dM (D c)))) := fun hz => by
    unfold p_r_putFunction_71
    rw [h74, if_neg (nI_in (show nG < 6000 by omega) (by omega)), if_neg (nI_in (show nG < 6000 by omega) (by omega)), if_neg (nI_in (show nG < 6000 by omega) (by omega)), nI_clamp (show c < 2 ^ 31 by omega), if_neg hni, nI_clamp (show nG < 2 ^ 31 by omega), h76]
  have hPF : p_r_putFunction (nI c) (nI b) ρ = if nA + dM (D c) ≤ 6000 then p_r_putFunction_106 (nI (dM (D c))) (ρ.1 114 c) 0 (jx_i (jx_i (jx_l ρ 157 nG (rV v)) 158 nG (nI nA)) 159 nG (nI (dM (D c)))) else some (0, jx_i ρ 106 87 5) := by
    unfold p_r_putFunction
    rw [nI_clamp (show c < 2 ^ 31 by omega), if_neg hni, e3, h76, nI_add, h74]
    by_cases z : nA + dM (D c) ≤ 6000
    · rw [if_pos (show nI (nA + dM (D c)) ≤ (6000 : Int32) from (nI_le z (by omega) : nI (nA + dM (D c)) ≤ nI 6000)), if_pos z, if_neg hni]
      rcases hkk with k | k
      · obtain ⟨q1, q2⟩ := hv2 k
        rw [(a14 k).1, if_neg (nI_pos (by omega)), if_neg hni, nI_add, if_neg (nI_in q1 (by omega)), nI_clamp (by omega), q2]
        exact h71 z
      · have q := hv k
        subst q
        rw [(a15 k).1, if_pos (by decide), if_neg hni, (a15 k).2.1, show v_r_tagged (4 : Int64) (nI (dG (D c))) ρ = rV (4, nI (dG (D c))) from rfl]
        exact h71 z
    · rw [if_neg (show ¬ nI (nA + dM (D c)) ≤ (6000 : Int32) from (nI_ge (by omega) (by omega) : ¬ nI (nA + dM (D c)) ≤ nI 6000)), if_neg z]
  unfold p_r_putOne p_r_putOne_119
  rw [nI_clamp (show c < 2 ^ 31 by omega), if_neg hni, a6, if_pos (show 28 ≤ dK (D c) by omega), if_pos (by decide), if_neg hni, if_pos (by decide), if_neg hni, if_neg (fun q => q rfl), if_neg hni, e3, if_pos (nI_ne0 (by omega) (by omega)), if_neg hni, if_neg (fun q => q rfl), if_neg hni, h124, if_neg hgt, hPF]
  split
  · cases p_r_putFunction_106 (nI (dM (D c))) (ρ.1 114 c) 0 (jx_i (jx_i (jx_l ρ 157 nG (rV v)) 158 nG (nI nA)) 159 nG (nI (dM (D c)))) <;> rfl
  · rfl
