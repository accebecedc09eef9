/-! ANALYSIS, 8: a node's point in the reference. -/
theorem r_made_fin : ∀ t : Fin 14, ∀ sh : Fin 6, ∀ x y : Fin 2, 2 ≤ t.val → v_r_made (nI t.val) (nI sh.val) (nI x.val) (nI y.val) s0 = nI (mk t.val sh.val x.val y.val) := by decide +kernel
theorem r_sh1_fin : ∀ n o : Fin 2, v_r_shapeOne (nI n.val) (nI o.val) s0 = nI (sh1 n.val o.val) := by decide +kernel
theorem r_sh2_fin : ∀ n s f b : Fin 2, v_r_shapeTwo (nI n.val) (nI s.val) (nI f.val) (nI b.val) s0 = nI (sh2 n.val s.val f.val b.val) := by decide +kernel
/-- what the reference's rows say while f is worked -/
def RS (F : Nat) (pN lN' : Nat → Nat) (ty V : Nat → Nat → Nat) (f : Nat) (ρ : jx_S) (loc : Nat → Nat) : Prop := (∀ g, g < F → ∀ n, n < cnt (ty g) (pN g) → ρ.1 146 (1000 * g + n) = nI (V g n)) ∧ (∀ s, s < lN' f → ρ.1 149 s = nI (loc s)) ∧ ρ.1 106 56 = nI f ∧ ∀ g, g < F → ρ.1 127 g = nI (pN g) ∧ pN g ≤ 8 ∧ pN g ≤ lN' g ∧ lN' g ≤ 30 ∧ (∀ i, i < lN' g → ty g i < 14 ∧ ρ.1 137 (30 * g + i) = nI (ty g i)) ∧ (∀ i, i < pN g → ρ.1 135 (8 * g + i) = nI (ty g i)) ∧ cnt (ty g) (pN g) ≤ 1000
theorem r_notin {k n : Nat} (h : k < n) (hn : n < 2 ^ 31) : ¬ (nI k < 0 ∨ n ≤ (nI k).toNatClampNeg) := nI_in h hn
theorem r_ofLocal {ρ : jx_S} {f k s m t x y : Nat} {cs : Nat → Nat} {sh a0 a1 : Nat} (hf : f < 40) (hk : k < 1200) (hs : s < 30) (ht : t < 14) (hm : m ≤ tyA t) (hsh : sh < tyQ t) (hcs : ∀ i, i < m → cs i < 1200) (h137 : ρ.1 137 (30 * f + s) = nI t) (h56 : ρ.1 106 56 = nI f) (h117 : ρ.1 117 k = nI s) (h119 : ρ.1 119 k = nI m) (h114 : 0 < m → ρ.1 114 k = nI (cs 0)) (h120 : 1 < m → ρ.1 120 (cs 0) = nI (cs 1)) (h149 : ρ.1 149 s = nI sh) (h0 : 0 < m → ρ.1 148 (cs 0) = nI a0 ∧ a0 < 2) (h1 : 1 < m → ρ.1 148 (cs 1) = nI a1 ∧ a1 < 2) (hx : x < 2) (hy : y < 2) : p_r_ofLocal (nI k) (nI x) (nI y) ρ = some (nI (lcV t sh m a0 a1 x y), ρ) := by
  have hA := @tyA_le t
  have hq := (tyQ_le t).1
  have n1 : ¬ (nI k < 0 ∨ 3000 ≤ k) := fun q => by
    rcases q with q | q
    · exact nI_pos (by omega) q
    · omega
  unfold p_r_ofLocal
  rw [if_neg (nI_in (show k < 3000 by omega) (by omega)), nI_clamp (show k < 2 ^ 31 by omega), h117, h56, show (30 : Int32) * nI f + nI s = nI (30 * f + s) by rw [show (30 : Int32) = nI 30 from rfl, nI_mul, nI_add], if_neg (nI_in (show 30 * f + s < 1200 by omega) (by omega)), if_neg n1, if_neg (nI_in (show s < 32 by omega) (by omega)), nI_clamp (show 30 * f + s < 2 ^ 31 by omega), h137, nI_clamp (show s < 2 ^ 31 by omega), h149, if_neg n1, h119, if_neg n1]
  unfold lcV
  have made : ∀ u v, u < 2 → v < 2 → 2 ≤ t → p_r_ofLocal_113 (nI t) (nI sh) (nI u) (nI v) ρ = some (nI (mk t sh u v), ρ) := fun u v hu hv h2 => by
    unfold p_r_ofLocal_113
    rw [show v_r_made (nI t) (nI sh) (nI u) (nI v) ρ = nI (mk t sh u v) from r_made_fin ⟨t, ht⟩ ⟨sh, by omega⟩ ⟨u, hu⟩ ⟨v, hv⟩ h2]
  by_cases h2 : 2 ≤ t
  · rw [if_pos (show (2 : Int32) ≤ nI t from (nI_le h2 (by omega) : nI 2 ≤ nI t))]
    have k67 : ∀ u, u < 2 → p_r_ofLocal_67 (nI k) (nI x) (nI y) (nI t) (nI sh) (nI u) ρ = some (nI (mk t sh u (if 1 < m then a1 else if m = 1 then x else y)), ρ) := fun u hu => by
      unfold p_r_ofLocal_67
      rw [if_neg (nI_in (show k < 3000 by omega) (by omega)), nI_clamp (show k < 2 ^ 31 by omega), h119, if_neg n1, if_neg n1]
      by_cases z1 : 1 < m
      · have c0 := hcs 0 (by omega)
        have c1 := hcs 1 z1
        rw [if_neg (show ¬ nI m ≤ (1 : Int32) from (nI_ge z1 (by omega) : ¬ nI m ≤ nI 1)), h114 (by omega), if_neg (nI_in (show cs 0 < 3000 by omega) (by omega)), nI_clamp (show cs 0 < 2 ^ 31 by omega), h120 z1, if_neg (nI_in (show cs 1 < 3000 by omega) (by omega)), nI_clamp (show cs 1 < 2 ^ 31 by omega), (h1 z1).1, if_pos z1]
        exact made u a1 hu (h1 z1).2 h2
      · rw [if_pos (show nI m ≤ (1 : Int32) from (nI_le (by omega) (by omega) : nI m ≤ nI 1)), if_neg z1]
        by_cases z2 : m = 1
        · rw [if_neg (show ¬ ¬ nI m = (1 : Int32) from fun q => q (by rw [z2]; rfl)), if_pos z2]
          exact made u x hu hx h2
        · rw [if_pos (show ¬ nI m = (1 : Int32) from fun q => z2 ((nI_eq (b := 1) (by omega) (by omega)).mp q)), if_neg z2]
          exact made u y hu hy h2
    by_cases z0 : 0 < m
    · have c0 := hcs 0 z0
      rw [if_neg (show ¬ nI m ≤ 0 from (nI_ge z0 (by omega) : ¬ nI m ≤ nI 0)), h114 z0, if_neg (nI_in (show cs 0 < 3000 by omega) (by omega)), nI_clamp (show cs 0 < 2 ^ 31 by omega), (h0 z0).1, if_pos z0]
      exact k67 a0 (h0 z0).2
    · rw [if_pos (show nI m ≤ 0 from (nI_le (by omega) (by omega) : nI m ≤ nI 0)), if_neg z0]
      exact k67 x hx
  · rw [if_neg (show ¬ (2 : Int32) ≤ nI t from (nI_ge (by omega) (by omega) : ¬ nI 2 ≤ nI t))]
    unfold mk
    rw [if_pos (show t < 2 by omega)]
theorem r_called {F : Nat} {pN : Nat → Nat} {ty V : Nat → Nat → Nat} {ρ : jx_S} {k g m x y : Nat} {cs a : Nat → Nat} (hF : F ≤ 40) (hg : g < F) (hk : k < 1200) (hm : m ≤ pN g) (hp8 : pN g ≤ 8) (hcs : ∀ i, i < m → cs i < 1200) (h127 : ρ.1 127 g = nI (pN g)) (h135 : ∀ i, i < pN g → ty g i < 14 ∧ ρ.1 135 (8 * g + i) = nI (ty g i)) (h123 : ρ.1 123 k = nI g) (h119 : ρ.1 119 k = nI m) (h114 : 0 < m → ρ.1 114 k = nI (cs 0)) (h120 : ∀ i, i + 1 < m → ρ.1 120 (cs i) = nI (cs (i + 1))) (h148 : ∀ i, i < m → ρ.1 148 (cs i) = nI (a i) ∧ a i < tyQ (ty g i)) (hb : ∀ i, m ≤ i → i < pN g → ty g i < 2) (hV : ∀ n, n < cnt (ty g) (pN g) → ρ.1 146 (1000 * g + n) = nI (V g n)) (hcn : cnt (ty g) (pN g) ≤ 1000) (hx : x < 2) (hy : y < 2) : p_r_called (nI k) (nI x) (nI y) ρ = some (nI (clV (V g) (pN g) m (ty g) a x y), ρ) := by
  have n1 : ¬ (nI k < 0 ∨ 3000 ≤ k) := fun q => by
    rcases q with q | q
    · exact nI_pos (by omega) q
    · omega
  have ha := arg_lt (t := ty g) (p := pN g) (fun i hi => (h148 i hi).2) hb hx hy
  have hW : nm (ty g) (arg m a x y) (pN g) < cnt (ty g) (pN g) := nm_lt _ ha
  unfold p_r_called p_r_called_22
  rw [if_neg (nI_in (show k < 3000 by omega) (by omega)), nI_clamp (show k < 2 ^ 31 by omega), if_neg n1, h123]
  have e0 : ρ.1 114 k = (fun i => if i < m then nI (cs i) else if m = 0 then ρ.1 114 k else ρ.1 120 (cs (m - 1))) 0 := by
    dsimp only
    by_cases z : 0 < m
    · rw [if_pos z]; exact h114 z
    · rw [if_neg z, if_pos (by omega)]
  rw [e0]
  refine jx_loop_for (X := some (nI (clV (V g) (pN g) m (ty g) a x y), ρ)) (fun i => (nI k, nI x, nI y, nI g, nI (nm (ty g) (arg m a x y) i), (fun i => if i < m then nI (cs i) else if m = 0 then ρ.1 114 k else ρ.1 120 (cs (m - 1))) i, nI i, ρ)) (pN g) (fun i hi => ?_) ?_ (by omega)
  · dsimp only
    show p_r_called_22_s (nI k) (nI x) (nI y) (nI g) (nI (nm (ty g) (arg m a x y) i)) (if i < m then nI (cs i) else if m = 0 then ρ.1 114 k else ρ.1 120 (cs (m - 1))) (nI i) ρ = _
    have key : ∀ (v : Nat) (z : Int32), arg m a x y i = v → p_r_called_96 (nI k) (nI x) (nI y) (nI g) (nI (nm (ty g) (arg m a x y) i)) (nI i) (nI v) z ρ = some (.inl (nI k, nI x, nI y, nI g, nI (nm (ty g) (arg m a x y) (i + 1)), z, nI (i + 1), ρ)) := fun v z hv => by
      unfold p_r_called_96
      rw [show (8 : Int32) * nI g + nI i = nI (8 * g + i) by rw [show (8 : Int32) = nI 8 from rfl, nI_mul, nI_add], if_neg (nI_in (show 8 * g + i < 320 by omega) (by omega)), nI_clamp (show 8 * g + i < 2 ^ 31 by omega), (h135 i hi).2, r_points ρ (h135 i hi).1, nI_mul, nI_add, ← nI_succ, ← hv]
      rfl
    have k71 : ∀ (v : Nat) (z : Int32), arg m a x y i = v → z = (if i < m then nI (cs i) else if m = 0 then ρ.1 114 k else ρ.1 120 (cs (m - 1))) → p_r_called_71 (nI k) (nI x) (nI y) (nI g) (nI (nm (ty g) (arg m a x y) i)) z (nI i) (nI v) ρ = some (.inl (nI k, nI x, nI y, nI g, nI (nm (ty g) (arg m a x y) (i + 1)), (if i + 1 < m then nI (cs (i + 1)) else if m = 0 then ρ.1 114 k else ρ.1 120 (cs (m - 1))), nI (i + 1), ρ)) := fun v z hv hz => by
      unfold p_r_called_71
      rw [if_neg (nI_in (show k < 3000 by omega) (by omega)), nI_clamp (show k < 2 ^ 31 by omega), h119]
      by_cases zi : i < m
      · have := hcs i zi
        rw [if_pos zi] at hz
        rw [if_neg (nI_ge zi (by omega)), hz, if_neg (nI_in (show cs i < 3000 by omega) (by omega)), nI_clamp (show cs i < 2 ^ 31 by omega), key v _ hv]
        by_cases z2 : i + 1 < m
        · rw [if_pos z2, h120 i z2]
        · rw [if_neg z2, if_neg (by omega), show m - 1 = i by omega]
      · rw [if_neg zi] at hz
        rw [if_pos (nI_le (by omega) (by omega)), key v _ hv, if_neg (by omega), hz]
    unfold p_r_called_22_s
    rw [if_neg (nI_in (show g < 40 by omega) (by omega)), nI_clamp (show g < 2 ^ 31 by omega), h127, if_neg (nI_ge hi (by omega)), if_neg (nI_in (show k < 3000 by omega) (by omega)), nI_clamp (show k < 2 ^ 31 by omega), h119, if_neg n1]
    by_cases zi : i < m
    · have := hcs i zi
      have e1 : (if i < m then nI (cs i) else if m = 0 then ρ.1 114 k else ρ.1 120 (cs (m - 1))) = nI (cs i) := if_pos zi
      rw [if_neg (nI_ge zi (by omega)), e1, if_neg (nI_in (show cs i < 3000 by omega) (by omega)), nI_clamp (show cs i < 2 ^ 31 by omega), (h148 i zi).1, k71 (a i) (nI (cs i)) (if_pos zi) e1.symm]
    · rw [if_pos (nI_le (by omega) (by omega))]
      by_cases z2 : i = m
      · rw [if_neg (show ¬ ¬ nI i = nI m from fun q => q (by rw [z2])), k71 x _ (by unfold arg; rw [if_neg zi, if_pos z2]) rfl]
      · rw [if_pos (show ¬ nI i = nI m from fun q => z2 ((nI_eq (by omega) (by omega)).mp q)), k71 y _ (by unfold arg; rw [if_neg zi, if_neg z2]) rfl]
  · dsimp only
    show p_r_called_22_s (nI k) (nI x) (nI y) (nI g) (nI (nm (ty g) (arg m a x y) (pN g))) (if pN g < m then nI (cs (pN g)) else if m = 0 then ρ.1 114 k else ρ.1 120 (cs (m - 1))) (nI (pN g)) ρ = _
    unfold p_r_called_22_s
    rw [if_neg (nI_in (show g < 40 by omega) (by omega)), nI_clamp (show g < 2 ^ 31 by omega), h127, if_pos (nI_le (Nat.le_refl _) (by omega)), show (1000 : Int32) * nI g + nI (nm (ty g) (arg m a x y) (pN g)) = nI (1000 * g + nm (ty g) (arg m a x y) (pN g)) by rw [show (1000 : Int32) = nI 1000 from rfl, nI_mul, nI_add], if_neg (nI_in (show 1000 * g + nm (ty g) (arg m a x y) (pN g) < 40000 by omega) (by omega)), nI_clamp (show 1000 * g + nm (ty g) (arg m a x y) (pN g) < 2 ^ 31 by omega), hV _ hW]
    rfl
