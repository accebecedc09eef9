/-! ANALYSIS, 7: a node's point in the class, all kinds. -/
theorem c_local {τ : jx_S} {f k s m t : Nat} {cs : Nat → Nat} {sh a0 a1 : Nat} (hf : f < 40) (hk : k < 1200) (hs : s < 30) (ht : t < 14) (hm : m ≤ tyA t) (hsh : sh < tyQ t) (hcs : ∀ i, i < m → cs i < 1200) (h57 : τ.1 57 (30 * f + s) = nI t) (h33 : τ.1 33 (k + 1) = nI s) (h35 : τ.1 35 (k + 1) = nI m) (h27 : τ.1 27 (k + 1) = nI (if 0 < m then cs 0 + 1 else 0)) (h29 : ∀ i, i < m → τ.1 29 (cs i + 1) = nI (if i + 1 < m then cs (i + 1) + 1 else 0)) (h69 : τ.1 69 s = nI sh) (h0 : 0 < m → τ.1 67 (cs 0 + 1) = nI a0 ∧ a0 < 2) (h1 : 1 < m → τ.1 67 (cs 1 + 1) = nI a1 ∧ a1 < 2) : v_cAna_pointOfLocal (nI f) (nI (k + 1)) τ = nI (ptLoc t sh m a0 a1) := by
  have hA := @tyA_le t
  have hq := (tyQ_le t).1
  unfold v_cAna_pointOfLocal v_cFun_typeOf
  rw [jI_at_in (n := 1201) (f := τ.1 35) (by omega) (by omega), h35, jI_at_in (n := 1201) (f := τ.1 33) (by omega) (by omega), h33, jI_at_in (n := 1201) (f := τ.1 27) (by omega) (by omega), h27, show nI f * (30 : Int32) = nI (f * 30) from nI_mul f 30, nI_add, jI_at_in (show f * 30 + s < 1200 by omega) (by omega), show f * 30 + s = 30 * f + s by omega, h57, c_taken τ ht, jI_at_in (n := 30) hs (by omega), h69]
  rw [ptLoc_parts hm sh a0 a1 (if 0 < m then a0 else 0) (if 1 < m then a1 else 0) (fun z => by rw [if_pos z]) (fun z => by rw [if_pos z])]
  have b0 : (if 0 < m then a0 else 0) < 2 := by split; exact (h0 (by assumption)).2; omega
  have b1 : (if 1 < m then a1 else 0) < 2 := by split; exact (h1 (by assumption)).2; omega
  have fin := c_loc_fin ⟨t, ht⟩ ⟨sh, by omega⟩ ⟨m, by omega⟩ ⟨_, b0⟩ ⟨_, b1⟩ hsh hm
  dsimp only at fin
  rw [← fin]
  by_cases z0 : 0 < m
  · have c0 := hcs 0 z0
    have n0 : ¬ nI m = 0 := nI_ne0 z0 (by omega)
    have e0 : jI_at 1201 (τ.1 67) (nI (cs 0 + 1)) = nI a0 := by rw [jI_at_in (by omega) (by omega)]; exact (h0 z0).1
    have e1 : jI_at 1201 (τ.1 29) (nI (cs 0 + 1)) = nI (if 1 < m then cs 1 + 1 else 0) := by rw [jI_at_in (by omega) (by omega), h29 0 z0]
    rw [if_pos z0, if_pos z0, e0, e1]
    by_cases z1 : 1 < m
    · have c1 := hcs 1 z1
      have e2 : jI_at 1201 (τ.1 67) (nI (cs 1 + 1)) = nI a1 := by rw [jI_at_in (by omega) (by omega)]; exact (h1 z1).1
      rw [if_pos z1, if_pos z1, e2]
      rfl
    · have em : m = 1 := by omega
      subst em
      rw [if_neg z1, if_neg z1]
      rfl
  · have em : m = 0 := by omega
    subst em
    rfl
/-- what the class's rows say while f is worked -/
def CS (F : Nat) (pN lN' : Nat → Nat) (ty V : Nat → Nat → Nat) (f : Nat) (τ : jx_S) (loc : Nat → Nat) : Prop := CV F pN ty V τ ∧ (∀ s, s < lN' f → τ.1 69 s = nI (loc s)) ∧ ∀ g, g < F → τ.1 43 g = nI (pN g) ∧ pN g ≤ 8 ∧ pN g ≤ lN' g ∧ lN' g ≤ 30 ∧ ∀ i, i < lN' g → ty g i < 14 ∧ τ.1 57 (30 * g + i) = nI (ty g i)
theorem c_pointOf {E : jEn} {F : Nat} {pN bN lN' : Nat → Nat} {ty V : Nat → Nat → Nat} {W : Nat → Nat} {τ ρ : jx_S} {f k tk : Nat} {d : jDs} {pt loc : Nat → Nat} (hF : F ≤ 40) (hf : f < F) (hA : AN E τ ρ k tk d) (hd : okD F pN lN' ty f W d k) (hS : CS F pN lN' ty V f τ loc) (hL : LeV F pN ty V V) (hp : ∀ i, i < dM d → τ.1 67 (dC d i + 1) = nI (pt (dC d i)) ∧ pt (dC d i) < tyQ (W (dC d i))) (hl : ∀ s, s < lN' f → loc s < tyQ (ty f s)) : p_cAna_pointOf (nI f) (nI (k + 1)) τ = some (nI (ptN pN ty f V d pt loc), τ) := by
  obtain ⟨a1, a2, a3, a4, a5, a6, a7, a8, a9, a10, a11, a12, a13, a14, a15, _⟩ := hA
  obtain ⟨s1, s2, s3⟩ := hS
  obtain ⟨d1, d2, d3⟩ := hd
  have e23 : jI_at 1201 (τ.1 23) (nI (k + 1)) = nI (dK d) := by rw [jI_at_in (by omega) (by omega)]; exact a5
  have e27 : 0 < dM d → jI_at 1201 (τ.1 27) (nI (k + 1)) = nI (dC d 0 + 1) := fun h => by rw [jI_at_in (by omega) (by omega), a8, if_pos h]
  have e29 : ∀ i, i < dM d → jI_at 1201 (τ.1 29) (nI (dC d i + 1)) = nI (if i + 1 < dM d then dC d (i + 1) + 1 else 0) := fun i h => by have := a3 i h; rw [jI_at_in (by omega) (by omega)]; exact a9 i h
  have e67 : ∀ i, i < dM d → jI_at 1201 (τ.1 67) (nI (dC d i + 1)) = nI (pt (dC d i)) := fun i h => by have := a3 i h; rw [jI_at_in (by omega) (by omega)]; exact (hp i h).1
  unfold p_cAna_pointOf ptN
  rw [e23]
  rcases d3 with ⟨z, w⟩ | ⟨z, zm, w, w1⟩ | ⟨z, zm, w, w0, w1, w2⟩ | ⟨z, z1, z2, z3, z4, z5⟩ | ⟨z, z1, z2, z3, z4, z5, z6⟩ | ⟨z, zm, w, w0, w1⟩
  · rcases z with z | z | z | z
    · rw [z]; rfl
    · rw [z]; rfl
    · rw [z]; rfl
    · rw [z]; rfl
  · rw [z, if_neg (by decide), if_pos (by decide), if_neg (by decide), if_neg (by decide), if_pos rfl, e27 (by omega), e29 0 (by omega), if_pos (by omega), e67 1 (by omega)]
  · have p0 := (hp 0 (by omega)).2
    have p1 := (hp 1 (by omega)).2
    have p2 := (hp 2 (by omega)).2
    rw [tyQ_b w0] at p0
    rw [tyQ_b w1] at p1
    rw [tyQ_b w2] at p2
    have key : p_cAna_pointOf_191 (jI_at 1201 (τ.1 27) (nI (k + 1))) (jI_at 1201 (τ.1 29) (jI_at 1201 (τ.1 27) (nI (k + 1)))) τ = some (nI (pt (dC d 0) &&& (pt (dC d 1) ||| pt (dC d 2))), τ) := by
      unfold p_cAna_pointOf_191
      have e01 : jI_at 1201 (τ.1 29) (nI (dC d 0 + 1)) = nI (dC d 1 + 1) := by rw [e29 0 (by omega), if_pos (by omega)]
      have e12 : jI_at 1201 (τ.1 29) (nI (dC d 1 + 1)) = nI (dC d 2 + 1) := by rw [e29 1 (by omega), if_pos (by omega)]
      rw [e27 (by omega), e01, e12, e67 0 (by omega), e67 1 (by omega), e67 2 (by omega), or_nI p1 p2, and_nI p0 (or_le (Nat.le_refl _) (Nat.le_refl _) p1 p2).2]
    rcases z with z | z
    · rw [z, if_neg (by decide), if_neg (by decide), if_pos (by decide), if_neg (by decide), if_neg (by decide), if_neg (by decide), if_pos (by decide)]; exact key
    · rw [z, if_neg (by decide), if_neg (by decide), if_neg (by decide), if_pos (by decide), if_neg (by decide), if_neg (by decide), if_neg (by decide), if_pos (by decide)]; exact key
  · rw [z, if_neg (by decide), if_neg (by decide), if_neg (by decide), if_neg (by decide), if_neg (by decide), if_neg (by decide), if_neg (by decide), if_pos (by decide), if_neg (by decide), if_neg (by decide), if_neg (by decide), if_neg (by decide), if_pos rfl]
    obtain ⟨g1, g2, g3, g4, g5⟩ := s3 f hf
    have hA2 := @tyA_le (ty f (dS d))
    have h13 := a13 (by omega)
    rw [c_local (by omega) a1 (by omega) z2 z3 (hl _ z1) (fun i hi => by have := a3 i hi; omega) (g5 _ z1).2 (a14 z).2 h13.2.1 a8 a9 (s2 _ z1) (fun h => ⟨(hp 0 h).1, ?_⟩) (fun h => ⟨(hp 1 h).1, ?_⟩)]
    · have p0 := (hp 0 h).2
      rw [z5 0 h, tyQ_b ((ty_p0 _ z2 0 (by omega)).2.2 (by omega)).2] at p0
      exact p0
    · have p1 := (hp 1 h).2
      rw [z5 1 h, tyQ_b ((ty_p0 _ z2 1 (by omega)).2.2 (by omega)).2] at p1
      exact p1
  · rw [z, if_neg (by decide), if_neg (by decide), if_neg (by decide), if_neg (by decide), if_neg (by decide), if_neg (by decide), if_neg (by decide), if_neg (by decide), if_pos (by decide), if_neg (by decide), if_neg (by decide), if_neg (by decide), if_neg (by decide), if_neg (by decide), if_pos rfl]
    obtain ⟨g1, g2, g3, g4, g5⟩ := s3 (dG d) z1
    have h13 := a13 (by omega)
    rw [c_call (a := fun i => pt (dC d i)) hF z1 a1 z2 z3 g2 (fun i hi => by have := a3 i hi; omega) g1 (fun i hi => g5 i (by omega)) (a15 z).2.2 h13.2.1 a8 a9 (fun i hi => ⟨(hp i hi).1, by rw [← z4 i hi]; exact (hp i hi).2⟩) z5 s1 hL]
    rfl
  · have p0 := (hp 0 (by omega)).2
    have p1 := (hp 1 (by omega)).2
    rw [tyQ_b w0] at p0
    rw [tyQ_b w1] at p1
    have nz : ∀ v, v < 30 → dK d ≠ v → ¬ nI (dK d) = nI v := fun v hv hn q => hn ((nI_eq (by omega) (by omega)).mp q)
    rw [if_neg (show ¬ nI (dK d) = (2 : Int32) from nz 2 (by omega) (by omega)), if_neg (show ¬ nI (dK d) = (5 : Int32) from nz 5 (by omega) (by omega)), if_neg (show ¬ nI (dK d) = (7 : Int32) from nz 7 (by omega) (by omega)), if_neg (show ¬ nI (dK d) = (10 : Int32) from nz 10 (by omega) (by omega)), if_neg (show ¬ nI (dK d) = (13 : Int32) from nz 13 (by omega) (by omega)), if_neg (show ¬ nI (dK d) = (14 : Int32) from nz 14 (by omega) (by omega)), if_neg (show ¬ nI (dK d) = (15 : Int32) from nz 15 (by omega) (by omega)), if_neg (show ¬ nI (dK d) = (28 : Int32) from nz 28 (by omega) (by omega)), if_neg (show ¬ nI (dK d) = (29 : Int32) from nz 29 (by omega) (by omega)), if_neg (by omega), if_neg (by omega), if_neg (by omega), if_neg (by omega), if_neg (by omega), if_neg (by omega)]
    unfold p_cAna_pointOf_230
    have e01 : jI_at 1201 (τ.1 29) (nI (dC d 0 + 1)) = nI (dC d 1 + 1) := by rw [e29 0 (by omega), if_pos (by omega)]
    rw [e27 (by omega), e01, e67 0 (by omega), e67 1 (by omega), and_nI p0 p1]
