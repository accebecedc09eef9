/-! ANALYSIS, 9: a node's point in the reference, all kinds. -/
/-- a name, once its value at two more is known -/
theorem r_name {ρ : jx_S} {k T m : Nat} (v : Nat → Nat → Nat) (hk : k < 1200) (hT : T ≤ m + 2) (hmT : m ≤ T) (hm8 : T < 100) (h112 : ρ.1 112 k = nI 1) (h119 : ρ.1 119 k = nI m) (ht : p_r_takes (nI k) ρ = some (nI T, ρ)) (hv : ∀ x y, x < 2 → y < 2 → p_r_ofName (nI k) (nI x) (nI y) ρ = some (nI (v x y), ρ)) (hv2 : 0 < T - m → ∀ x y, x < 2 → y < 2 → v x y < 2) : p_r_pointOf (nI k) ρ = some (nI (if T - m = 0 then v 0 0 else if T - m = 1 then sh1 (v 0 0) (v 1 0) else sh2 (v 0 0) (v 0 1) (v 1 0) (v 1 1)), ρ) := by
  have n1 : ¬ (nI k < 0 ∨ 3000 ≤ k) := fun q => by
    rcases q with q | q
    · exact nI_pos (by omega) q
    · omega
  have v00 : p_r_ofName (nI k) 0 0 ρ = some (nI (v 0 0), ρ) := hv 0 0 (by omega) (by omega)
  have v01 : p_r_ofName (nI k) 0 1 ρ = some (nI (v 0 1), ρ) := hv 0 1 (by omega) (by omega)
  have v10 : p_r_ofName (nI k) 1 0 ρ = some (nI (v 1 0), ρ) := hv 1 0 (by omega) (by omega)
  have v11 : p_r_ofName (nI k) 1 1 ρ = some (nI (v 1 1), ρ) := hv 1 1 (by omega) (by omega)
  unfold p_r_pointOf
  rw [if_neg (nI_in (show k < 3000 by omega) (by omega)), nI_clamp (show k < 2 ^ 31 by omega), h112, if_pos (show nI 1 = 1 from rfl), ht, Option.bind_some, if_neg n1, h119, nI_sub hmT]
  by_cases z0 : T - m = 0
  · rw [z0, if_neg (by decide), v00, if_pos rfl]
    rfl
  · have b := hv2 (by omega)
    rw [if_pos (show ¬ nI (T - m) = 0 from nI_ne0 (by omega) (by omega)), if_neg z0]
    by_cases z1 : T - m = 1
    · rw [z1, if_neg (by decide), v00, Option.bind_some, v10, Option.bind_some, if_pos rfl, show v_r_shapeOne (nI (v 0 0)) (nI (v 1 0)) ρ = nI (sh1 (v 0 0) (v 1 0)) from r_sh1_fin ⟨v 0 0, b 0 0 (by omega) (by omega)⟩ ⟨v 1 0, b 1 0 (by omega) (by omega)⟩]
    · rw [if_pos (show ¬ nI (T - m) = 1 from fun q => z1 ((nI_eq (b := 1) (by omega) (by omega)).mp q)), if_neg z1, v00, Option.bind_some, v01, Option.bind_some, v10, Option.bind_some, v11, Option.bind_some, show v_r_shapeTwo (nI (v 0 0)) (nI (v 0 1)) (nI (v 1 0)) (nI (v 1 1)) ρ = nI (sh2 (v 0 0) (v 0 1) (v 1 0) (v 1 1)) from r_sh2_fin ⟨v 0 0, b 0 0 (by omega) (by omega)⟩ ⟨v 0 1, b 0 1 (by omega) (by omega)⟩ ⟨v 1 0, b 1 0 (by omega) (by omega)⟩ ⟨v 1 1, b 1 1 (by omega) (by omega)⟩]
theorem r_head {ρ : jx_S} {k o : Nat} (hk : k < 1200) (h112 : ρ.1 112 k = nI o) (ho : ¬ nI o = 1) : p_r_pointOf (nI k) ρ = (if nI o = 2 then (some (((1 : Int32), ρ))) else (if nI o = 5 then (if ((ρ.1 115) k) < 0 ∨ 3000 ≤ (((ρ.1 115) k)).toNatClampNeg then none else (some ((((ρ.1 148) (((ρ.1 115) k)).toNatClampNeg), ρ)))) else (if nI o = 7 then (p_r_pointOf_96 (nI k) ρ) else (if nI o = 10 then (p_r_pointOf_96 (nI k) ρ) else (if nI o = 13 then (some (((1 : Int32), ρ))) else (if nI o = 14 then (some (((1 : Int32), ρ))) else (if nI o = 15 then (some (((0 : Int32), ρ))) else (p_r_pointOf_214 (nI k) ρ)))))))) := by
  have n1 : ¬ (nI k < 0 ∨ 3000 ≤ k) := fun q => by
    rcases q with q | q
    · exact nI_pos (by omega) q
    · omega
  unfold p_r_pointOf
  rw [if_neg (nI_in (show k < 3000 by omega) (by omega)), nI_clamp (show k < 2 ^ 31 by omega), h112, if_neg ho, if_neg n1]
theorem mk_lt_fin : ∀ t : Fin 14, ∀ sh : Fin 6, ∀ x y : Fin 2, sh.val < tyQ t.val → 2 ≤ t.val → mk t.val sh.val x.val y.val < 2 := by decide +kernel
theorem r_pointOf {E : jEn} {F : Nat} {pN bN lN' : Nat → Nat} {ty V : Nat → Nat → Nat} {W : Nat → Nat} {τ ρ : jx_S} {f k tk : Nat} {d : jDs} {pt loc : Nat → Nat} (hF : F ≤ 40) (hf : f < F) (hA : AN E τ ρ k tk d) (hd : okD F pN lN' ty f W d k) (hS : RS F pN lN' ty V f ρ loc) (hL : LeV F pN ty V V) (hp : ∀ i, i < dM d → ρ.1 148 (dC d i) = nI (pt (dC d i)) ∧ pt (dC d i) < tyQ (W (dC d i))) (hl : ∀ s, s < lN' f → loc s < tyQ (ty f s)) : p_r_pointOf (nI k) ρ = some (nI (ptN pN ty f V d pt loc), ρ) := by
  obtain ⟨a1, a2, a3, a4, a5, a6, a7, a8, a9, a10, a11, a12, a13, a14, a15, _⟩ := hA
  obtain ⟨s1, s2, s3, s4⟩ := hS
  obtain ⟨d1, d2, d3⟩ := hd
  have n1 : ¬ (nI k < 0 ∨ 3000 ≤ k) := fun q => by
    rcases q with q | q
    · exact nI_pos (by omega) q
    · omega
  have e0 := fun h => r_head (o := if 28 ≤ dK d then 1 else dK d) a1 a6 h
  unfold ptN
  rcases d3 with ⟨z, w⟩ | ⟨z, zm, w, w1⟩ | ⟨z, zm, w, w0, w1, w2⟩ | ⟨z, z1, z2, z3, z4, z5⟩ | ⟨z, z1, z2, z3, z4, z5, z6⟩ | ⟨z, zm, w, w0, w1⟩
  · rcases z with z | z | z | z
    · rw [e0 (by rw [z]; decide), z]; rfl
    · rw [e0 (by rw [z]; decide), z]; rfl
    · rw [e0 (by rw [z]; decide), z]; rfl
    · rw [e0 (by rw [z]; decide), z]; rfl
  · have c1 := a3 1 (by omega)
    rw [e0 (by rw [z]; decide), z, if_neg (show ¬ (28 ≤ 5) by decide), if_neg (by decide), if_pos (show nI 5 = 5 from rfl), a11 (by omega) (by omega), if_neg (nI_in (show dC d 1 < 3000 by omega) (by omega)), nI_clamp (show dC d 1 < 2 ^ 31 by omega), (hp 1 (by omega)).1, if_neg (by decide), if_neg (by decide), if_pos rfl]
  · have p0 := hp 0 (by omega)
    have p1 := hp 1 (by omega)
    have p2 := hp 2 (by omega)
    rw [tyQ_b w0] at p0
    rw [tyQ_b w1] at p1
    rw [tyQ_b w2] at p2
    have c0 := a3 0 (by omega)
    have c1 := a3 1 (by omega)
    have c2 := a3 2 (by omega)
    have key : p_r_pointOf_96 (nI k) ρ = some (nI (pt (dC d 0) &&& (pt (dC d 1) ||| pt (dC d 2))), ρ) := by
      unfold p_r_pointOf_96
      rw [if_neg (nI_in (show k < 3000 by omega) (by omega)), nI_clamp (show k < 2 ^ 31 by omega), a10 (by omega), if_neg (nI_in (show dC d 0 < 3000 by omega) (by omega)), if_neg n1, a11 (by omega) (by omega), if_neg (nI_in (show dC d 1 < 3000 by omega) (by omega)), if_neg n1, a12 (by omega) (by omega), if_neg (nI_in (show dC d 2 < 3000 by omega) (by omega)), nI_clamp (show dC d 0 < 2 ^ 31 by omega), nI_clamp (show dC d 1 < 2 ^ 31 by omega), nI_clamp (show dC d 2 < 2 ^ 31 by omega), p0.1, p1.1, p2.1, or_nI p1.2 p2.2, and_nI p0.2 (or_le (Nat.le_refl _) (Nat.le_refl _) p1.2 p2.2).2]
    rcases z with z | z
    · rw [e0 (by rw [z]; decide), z, if_neg (show ¬ (28 ≤ 7) by decide), if_neg (by decide), if_neg (by decide), if_pos (show nI 7 = 7 from rfl), if_neg (by decide), if_neg (by decide), if_neg (by decide), if_pos (by decide)]; exact key
    · rw [e0 (by rw [z]; decide), z, if_neg (show ¬ (28 ≤ 10) by decide), if_neg (by decide), if_neg (by decide), if_neg (by decide), if_pos (show nI 10 = 10 from rfl), if_neg (by decide), if_neg (by decide), if_neg (by decide), if_pos (by decide)]; exact key
  · obtain ⟨g1, g2, g3, g4, g5, g6, g7⟩ := s4 f hf
    have hA2 := @tyA_le (ty f (dS d))
    obtain ⟨h13, _, h13b⟩ := a13 (by omega)
    have r117 := (a14 z).1
    have h137 := (g5 _ z1).2
    have e30 : (30 : Int32) * nI f + nI (dS d) = nI (30 * f + dS d) := by rw [show (30 : Int32) = nI 30 from rfl, nI_mul, nI_add]
    have npos : ¬ nI (dS d) < 0 := nI_pos (by omega)
    have ht : p_r_takes (nI k) ρ = some (nI (tyA (ty f (dS d))), ρ) := by
      unfold p_r_takes
      rw [if_neg (nI_in (show k < 3000 by omega) (by omega)), nI_clamp (show k < 2 ^ 31 by omega), r117, if_neg npos, if_neg n1, s3, e30, if_neg (nI_in (show 30 * f + dS d < 1200 by omega) (by omega)), nI_clamp (show 30 * f + dS d < 2 ^ 31 by omega), h137, r_arity ρ z2]
    have b0 : 0 < dM d → ρ.1 148 (dC d 0) = nI (pt (dC d 0)) ∧ pt (dC d 0) < 2 := fun h => by
      have p0 := hp 0 h
      rw [z5 0 h, tyQ_b ((ty_p0 _ z2 0 (by omega)).2.2 (by omega)).2] at p0
      exact p0
    have b1 : 1 < dM d → ρ.1 148 (dC d 1) = nI (pt (dC d 1)) ∧ pt (dC d 1) < 2 := fun h => by
      have p1 := hp 1 h
      rw [z5 1 h, tyQ_b ((ty_p0 _ z2 1 (by omega)).2.2 (by omega)).2] at p1
      exact p1
    have hsh := hl _ z1
    have hq := (tyQ_le (ty f (dS d))).1
    rw [z, if_neg (by decide), if_neg (by decide), if_neg (by decide), if_neg (by decide), if_pos rfl, r_name (fun x y => lcV (ty f (dS d)) (loc (dS d)) (dM d) (pt (dC d 0)) (pt (dC d 1)) x y) a1 (by omega) z3 (by omega) (by rw [a6, z]; rfl) h13 ht (fun x y hx hy => ?_) (fun h x y hx hy => ?_)]
    · rfl
    · unfold p_r_ofName
      rw [if_neg (nI_in (show k < 3000 by omega) (by omega)), nI_clamp (show k < 2 ^ 31 by omega), r117, if_neg npos, r_ofLocal (cs := dC d) (by omega) a1 (by omega) z2 z3 hsh (fun i hi => by have := a3 i hi; omega) h137 s3 r117 h13 a10 (fun h => h13b 0 h) (s2 _ z1) b0 b1 hx hy]
      rfl
    · unfold lcV
      have u0 : (if 0 < dM d then pt (dC d 0) else x) < 2 := by split; exact (b0 (by assumption)).2; exact hx
      have u1 : (if 1 < dM d then pt (dC d 1) else if dM d = 1 then x else y) < 2 := by
        split
        · exact (b1 (by assumption)).2
        · split <;> assumption
      have u2 : 2 ≤ ty f (dS d) := by
        unfold tyA at h
        split at h
        · omega
        · omega
      exact mk_lt_fin ⟨_, z2⟩ ⟨_, show loc (dS d) < 6 by omega⟩ ⟨_, u0⟩ ⟨_, u1⟩ hsh u2
  · obtain ⟨g1, g2, g3, g4, g5, g6, g7⟩ := s4 (dG d) z1
    obtain ⟨h13, _, h13b⟩ := a13 (by omega)
    obtain ⟨r117, r123, _⟩ := a15 z
    have ht : p_r_takes (nI k) ρ = some (nI (pN (dG d)), ρ) := by
      unfold p_r_takes
      rw [if_neg (nI_in (show k < 3000 by omega) (by omega)), nI_clamp (show k < 2 ^ 31 by omega), r117, if_pos (by decide), if_neg n1, r123, if_neg (nI_in (show dG d < 40 by omega) (by omega)), nI_clamp (show dG d < 2 ^ 31 by omega), g1]
    rw [z, if_neg (by decide), if_neg (by decide), if_neg (by decide), if_neg (by decide), if_neg (by decide), if_pos rfl, r_name (fun x y => clV (V (dG d)) (pN (dG d)) (dM d) (ty (dG d)) (fun i => pt (dC d i)) x y) a1 z3 z2 (by omega) (by rw [a6, z]; rfl) h13 ht (fun x y hx hy => ?_) (fun h x y hx hy => ?_)]
    · rfl
    · unfold p_r_ofName
      rw [if_neg (nI_in (show k < 3000 by omega) (by omega)), nI_clamp (show k < 2 ^ 31 by omega), r117, if_pos (by decide), r_called (a := fun i => pt (dC d i)) hF z1 a1 z2 g2 (fun i hi => by have := a3 i hi; omega) g1 (fun i hi => ⟨(g5 i (by omega)).1, g6 i hi⟩) r123 h13 a10 h13b (fun i hi => ⟨(hp i hi).1, by rw [← z4 i hi]; exact (hp i hi).2⟩) z5 (s1 _ z1) g7 hx hy]
      rfl
    · have := hL _ z1 _ _ (fun i hi => leQ_refl (arg_lt (t := ty (dG d)) (a := fun i => pt (dC d i)) (m := dM d) (p := pN (dG d)) (x := x) (y := y) (fun i hi => by rw [← z4 i hi]; exact (hp i hi).2) z5 hx hy i hi))
      exact this.2
  · have p0 := hp 0 (by omega)
    have p1 := hp 1 (by omega)
    rw [tyQ_b w0] at p0
    rw [tyQ_b w1] at p1
    have c0 := a3 0 (by omega)
    have c1 := a3 1 (by omega)
    have nz : ∀ v, v < 30 → dK d ≠ v → ¬ nI (dK d) = nI v := fun v hv hn q => hn ((nI_eq (by omega) (by omega)).mp q)
    rw [e0 (by rw [if_neg (show ¬ 28 ≤ dK d by omega)]; exact nz 1 (by omega) (by omega)), if_neg (show ¬ 28 ≤ dK d by omega), if_neg (show ¬ nI (dK d) = (2 : Int32) from nz 2 (by omega) (by omega)), if_neg (show ¬ nI (dK d) = (5 : Int32) from nz 5 (by omega) (by omega)), if_neg (show ¬ nI (dK d) = (7 : Int32) from nz 7 (by omega) (by omega)), if_neg (show ¬ nI (dK d) = (10 : Int32) from nz 10 (by omega) (by omega)), if_neg (show ¬ nI (dK d) = (13 : Int32) from nz 13 (by omega) (by omega)), if_neg (show ¬ nI (dK d) = (14 : Int32) from nz 14 (by omega) (by omega)), if_neg (show ¬ nI (dK d) = (15 : Int32) from nz 15 (by omega) (by omega)), if_neg (by omega), if_neg (by omega), if_neg (by omega), if_neg (by omega), if_neg (by omega), if_neg (by omega)]
    unfold p_r_pointOf_214
    rw [if_neg (nI_in (show k < 3000 by omega) (by omega)), nI_clamp (show k < 2 ^ 31 by omega), a10 (by omega), if_neg (nI_in (show dC d 0 < 3000 by omega) (by omega)), if_neg n1, a11 (by omega) (by omega), if_neg (nI_in (show dC d 1 < 3000 by omega) (by omega)), nI_clamp (show dC d 0 < 2 ^ 31 by omega), nI_clamp (show dC d 1 < 2 ^ 31 by omega), p0.1, p1.1, and_nI p0.2 p1.2]
