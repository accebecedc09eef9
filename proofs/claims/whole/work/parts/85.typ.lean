/-! TYPING, 1: types as numbers below 14; the parts of a node; functions by name. -/
def tyA (ty : Nat) : Nat := if ty < 2 then 0 else if ty < 6 then 1 else 2
def tyP (ty i : Nat) : Nat := if ty < 2 then ty else if ty < 6 then (if i = 0 then (ty - 2) / 2 else (ty - 2) % 2) else (if i = 0 then (ty - 6) / 4 else if i = 1 then (ty - 6) / 2 % 2 else (ty - 6) % 2)
def tyL (ty m : Nat) : Nat := if m = 0 then ty else if m = tyA ty then ty % 2 else 2 + (ty - 6) % 4
def tyQ (ty : Nat) : Nat := if ty < 2 then 2 else if ty < 6 then 3 else 6
theorem ty_c0 : ∀ ty, ty < 14 → v_cTyp_takenBy (nI ty) s0 = nI (tyA ty) ∧ v_r_arity (nI ty) s0 = nI (tyA ty) ∧ v_cTyp_pointsOf (nI ty) s0 = nI (tyQ ty) ∧ v_r_points (nI ty) s0 = nI (tyQ ty) ∧ v_cTyp_isBase (nI ty) s0 = (if ty < 2 then 1 else 0) := by decide +kernel
theorem ty_p0 : ∀ ty, ty < 14 → ∀ i, i < 3 → v_r_part (nI ty) (nI i) s0 = nI (tyP ty i) ∧ tyP ty i < 14 ∧ (i < tyA ty → v_cTyp_partOf (nI ty) (nI i) s0 = nI (tyP ty i) ∧ tyP ty i < 2) := by decide +kernel
theorem ty_l0 : ∀ ty, ty < 14 → ∀ m, m < 3 → m ≤ tyA ty → v_cTyp_leftOf (nI ty) (nI m) s0 = nI (tyL ty m) ∧ tyL ty m < 14 ∧ tyL ty m = (if tyA ty - m = 0 then tyP ty (tyA ty) else if tyA ty - m = 1 then 2 + 2 * tyP ty m + tyP ty (tyA ty) else 6 + 4 * tyP ty m + 2 * tyP ty (m + 1) + tyP ty (tyA ty)) := by decide +kernel
theorem c_taken (σ : jx_S) {ty : Nat} (h : ty < 14) : v_cTyp_takenBy (nI ty) σ = nI (tyA ty) := (ty_c0 ty h).1
theorem r_arity (σ : jx_S) {ty : Nat} (h : ty < 14) : v_r_arity (nI ty) σ = nI (tyA ty) := (ty_c0 ty h).2.1
theorem c_points (σ : jx_S) {ty : Nat} (h : ty < 14) : v_cTyp_pointsOf (nI ty) σ = nI (tyQ ty) := (ty_c0 ty h).2.2.1
theorem r_points (σ : jx_S) {ty : Nat} (h : ty < 14) : v_r_points (nI ty) σ = nI (tyQ ty) := (ty_c0 ty h).2.2.2.1
theorem c_isBase (σ : jx_S) {ty : Nat} (h : ty < 14) : v_cTyp_isBase (nI ty) σ = if ty < 2 then 1 else 0 := (ty_c0 ty h).2.2.2.2
theorem r_part (σ : jx_S) {ty i : Nat} (h : ty < 14) (hi : i < 3) : v_r_part (nI ty) (nI i) σ = nI (tyP ty i) := (ty_p0 ty h i hi).1
theorem c_partOf (σ : jx_S) {ty i : Nat} (h : ty < 14) (hi : i < tyA ty) : v_cTyp_partOf (nI ty) (nI i) σ = nI (tyP ty i) := ((ty_p0 ty h i (by unfold tyA at hi; split at hi; omega; split at hi <;> omega)).2.2 hi).1
theorem c_leftOf (σ : jx_S) {ty m : Nat} (h : ty < 14) (hm : m ≤ tyA ty) : v_cTyp_leftOf (nI ty) (nI m) σ = nI (tyL ty m) := (ty_l0 ty h m (by unfold tyA at hm; split at hm; omega; split at hm <;> omega) hm).1
theorem tyA_le {ty : Nat} : tyA ty ≤ 2 := by unfold tyA; split; omega; split <;> omega
/-- the i-th part of a node, in the class -/
theorem q_part {τ : jx_S} {k m i : Nat} {cs : Nat → Nat} (hk : k < 1200) (hm : m < 1200) (hi : i < 1200) (h27 : τ.1 27 (k + 1) = nI (if 0 < m then cs 0 + 1 else 0)) (hcs : ∀ j, j < m → cs j < 1200 ∧ τ.1 29 (cs j + 1) = nI (if j + 1 < m then cs (j + 1) + 1 else 0)) : p_cTre_part (nI (k + 1)) (nI i) τ = some (nI (if i < m then cs i + 1 else 0), τ) := by
  unfold p_cTre_part p_cTre_part_12
  rw [jI_at_in (by omega) (by omega), h27]
  have key : ∀ w j N, j + w = i → j ≤ m → w + 2 < N → jx_loop N (fun s : Int32 × Int32 × Int32 × jx_S => p_cTre_part_12_s s.1 s.2.1 s.2.2.1 (s.2.2.2)) (nI i, nI (if j < m then cs j + 1 else 0), nI j, τ) = some (nI (if i < m then cs i + 1 else 0), τ) := by
    intro w
    induction w with
    | zero =>
      intro j N h1 h2 h3
      obtain ⟨N, rfl⟩ : ∃ K, N = K + 1 := ⟨N - 1, by omega⟩
      refine jx_loop_out (X := some (nI (if i < m then cs i + 1 else 0), τ)) ?_ N
      show p_cTre_part_12_s (nI i) (nI (if j < m then cs j + 1 else 0)) (nI j) τ = _
      unfold p_cTre_part_12_s
      rw [if_pos (nI_le (by omega) (by omega)), show j = i by omega]
    | succ w ih =>
      intro j N h1 h2 h3
      obtain ⟨N, rfl⟩ : ∃ K, N = K + 1 := ⟨N - 1, by omega⟩
      by_cases hj : j < m
      · obtain ⟨c1, c2⟩ := hcs j hj
        rw [jx_loop_inl (s1 := (nI i, nI (if j + 1 < m then cs (j + 1) + 1 else 0), nI (j + 1), τ)) (by
          show p_cTre_part_12_s (nI i) (nI (if j < m then cs j + 1 else 0)) (nI j) τ = _
          unfold p_cTre_part_12_s
          rw [if_neg (nI_ge (by omega) (by omega)), if_pos hj, if_neg (nI_ne0 (by omega) (by omega)), jI_at_in (by omega) (by omega), c2, ← nI_succ])]
        exact ih (j + 1) N (by omega) (by omega) (by omega)
      · refine jx_loop_out (X := some (nI (if i < m then cs i + 1 else 0), τ)) ?_ N
        show p_cTre_part_12_s (nI i) (nI (if j < m then cs j + 1 else 0)) (nI j) τ = _
        unfold p_cTre_part_12_s
        rw [if_neg (nI_ge (by omega) (by omega)), if_neg hj, if_neg (show ¬ i < m by omega)]
        rfl
  exact key i 0 100000000 (by omega) (by omega) (by omega)
/-- the first function of a name -/
def fnF (E : jEn) (tk : Nat → Nat) (t F : Nat) : Nat → Int32
  | 0 => -1
  | w + 1 => if eN E (tk (F - (w + 1))) = eN E t then nI (F - (w + 1)) else fnF E tk t F w
theorem fnF_in {E : jEn} {tk : Nat → Nat} {t F : Nat} : ∀ w, w ≤ F → fnF E tk t F w = -1 ∨ ∃ g, g < F ∧ fnF E tk t F w = nI g := by
  intro w
  induction w with
  | zero => intro _; left; rfl
  | succ w ih =>
    intro hw
    rw [fnF]
    by_cases h : eN E (tk (F - (w + 1))) = eN E t
    · rw [if_pos h]; right; exact ⟨F - (w + 1), by omega, rfl⟩
    · rw [if_neg h]; exact ih (by omega)
theorem q_c_fn {E : jEn} (hE : EnvOK E) {τ : jx_S} (hC : EnvC E τ) {F t : Nat} {tk : Nat → Nat} (hF : F ≤ 40) (h10 : τ.1 4 10 = nI F) (h41 : ∀ g, g < F → τ.1 41 g = nI (tk g) ∧ tk g < eC E ∧ eK E (tk g) = 1) (ht : t < eC E) (kt : eK E t = 1) : p_cTyp_findFunction (nI t) τ = some (fnF E tk t F F, τ) := by
  unfold p_cTyp_findFunction p_cTyp_findFunction_2
  have key : ∀ w N, w ≤ F → w < N → jx_loop N (fun s : Int32 × Int32 × jx_S => p_cTyp_findFunction_2_s s.1 s.2.1 (s.2.2)) (nI t, nI (F - w), τ) = some (fnF E tk t F w, τ) := by
    intro w
    induction w with
    | zero =>
      intro N _ hN
      obtain ⟨N, rfl⟩ : ∃ K, N = K + 1 := ⟨N - 1, by omega⟩
      refine jx_loop_out (X := some (-1, τ)) ?_ N
      show p_cTyp_findFunction_2_s (nI t) (nI (F - 0)) τ = _
      unfold p_cTyp_findFunction_2_s
      rw [h10, if_pos (nI_le (by omega) (by omega))]
    | succ w ih =>
      intro N hw hN
      obtain ⟨N, rfl⟩ : ∃ K, N = K + 1 := ⟨N - 1, by omega⟩
      obtain ⟨b1, b2, b3⟩ := h41 (F - (w + 1)) (by omega)
      rw [fnF]
      by_cases h : eN E (tk (F - (w + 1))) = eN E t
      · rw [if_pos h]
        refine jx_loop_out (X := some (nI (F - (w + 1)), τ)) ?_ N
        show p_cTyp_findFunction_2_s (nI t) (nI (F - (w + 1))) τ = _
        unfold p_cTyp_findFunction_2_s
        rw [h10, if_neg (nI_ge (by omega) (by omega)), jI_at_in (by omega) (by omega), b1, q_c_same hE hC b2 ht b3 kt, if_pos h, if_neg (by decide)]
      · rw [if_neg h, jx_loop_inl (s1 := (nI t, nI (F - w), τ)) (by
          show p_cTyp_findFunction_2_s (nI t) (nI (F - (w + 1))) τ = _
          unfold p_cTyp_findFunction_2_s
          rw [h10, if_neg (nI_ge (by omega) (by omega)), jI_at_in (by omega) (by omega), b1, q_c_same hE hC b2 ht b3 kt, if_neg h, if_pos rfl, ← nI_succ, show F - (w + 1) + 1 = F - w by omega])]
        exact ih N (by omega) (by omega)
  have := key F 100000000 (Nat.le_refl F) (by omega)
  rw [Nat.sub_self] at this
  exact this
theorem q_r_fn {E : jEn} (hE : EnvOK E) {ρ : jx_S} (hR : EnvR E ρ) {F t : Nat} {tk : Nat → Nat} (hF : F ≤ 40) (h38 : ρ.1 106 38 = nI F) (h126 : ∀ g, g < F → ρ.1 126 g = nI (tk g) ∧ tk g < eC E ∧ eK E (tk g) = 1) (ht : t < eC E) (kt : eK E t = 1) : p_r_functionNamed (nI t) ρ = some (fnF E tk t F F, ρ) := by
  unfold p_r_functionNamed p_r_functionNamed_2
  have key : ∀ w N, w ≤ F → w < N → jx_loop N (fun s : Int32 × Int32 × jx_S => p_r_functionNamed_2_s s.1 s.2.1 (s.2.2)) (nI t, nI (F - w), ρ) = some (fnF E tk t F w, ρ) := by
    intro w
    induction w with
    | zero =>
      intro N _ hN
      obtain ⟨N, rfl⟩ : ∃ K, N = K + 1 := ⟨N - 1, by omega⟩
      refine jx_loop_out (X := some (-1, ρ)) ?_ N
      show p_r_functionNamed_2_s (nI t) (nI (F - 0)) ρ = _
      unfold p_r_functionNamed_2_s
      rw [h38, if_pos (nI_le (by omega) (by omega))]
    | succ w ih =>
      intro N hw hN
      obtain ⟨N, rfl⟩ : ∃ K, N = K + 1 := ⟨N - 1, by omega⟩
      obtain ⟨b1, b2, b3⟩ := h126 (F - (w + 1)) (by omega)
      rw [fnF]
      by_cases h : eN E (tk (F - (w + 1))) = eN E t
      · rw [if_pos h]
        refine jx_loop_out (X := some (nI (F - (w + 1)), ρ)) ?_ N
        show p_r_functionNamed_2_s (nI t) (nI (F - (w + 1))) ρ = _
        unfold p_r_functionNamed_2_s
        rw [h38, if_neg (nI_ge (by omega) (by omega)), if_neg (nI_in (show F - (w + 1) < 40 by omega) (by omega)), nI_clamp (by omega), b1, q_r_isSame E hE ρ hR (tk (F - (w + 1))) t b2 ht b3 kt, if_pos h, Option.bind_some, if_neg (show ¬ (1 : Int32) = 0 by decide)]
      · rw [if_neg h, jx_loop_inl (s1 := (nI t, nI (F - w), ρ)) (by
          show p_r_functionNamed_2_s (nI t) (nI (F - (w + 1))) ρ = _
          unfold p_r_functionNamed_2_s
          rw [h38, if_neg (nI_ge (by omega) (by omega)), if_neg (nI_in (show F - (w + 1) < 40 by omega) (by omega)), nI_clamp (by omega), b1, q_r_isSame E hE ρ hR (tk (F - (w + 1))) t b2 ht b3 kt, if_neg h, Option.bind_some, if_pos rfl, ← nI_succ, show F - (w + 1) + 1 = F - w by omega])]
        exact ih N (by omega) (by omega)
  have := key F 100000000 (Nat.le_refl F) (by omega)
  rw [Nat.sub_self] at this
  exact this
