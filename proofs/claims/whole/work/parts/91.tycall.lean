/-! TYPING, 8: a name that is a function. -/
def lfv (n m b t1 t2 : Nat) : Int32 := if n - m = 0 then nI b else if n - m = 1 then (if t1 < 2 then nI (2 + 2 * t1 + b) else -1) else if n - m = 2 then (if t1 < 2 ∧ t2 < 2 then nI (6 + 4 * t1 + 2 * t2 + b) else -1) else -1
theorem c_lfv {τ : jx_S} {g n m b t1 t2 : Nat} (hg : g < 40) (hn : n ≤ 8) (hm : m ≤ n) (h43 : τ.1 43 g = nI n) (h45 : τ.1 45 g = nI b) (hb : b < 2) (e1 : m < n → t1 < 14 ∧ τ.1 57 (30 * g + m) = nI t1) (e2 : m + 1 < n → t2 < 14 ∧ τ.1 57 (30 * g + (m + 1)) = nI t2) : v_cTyp_leftOfFunction (nI g) (nI m) τ = lfv n m b t1 t2 := by
  have ety : ∀ i, i < 30 → v_cFun_typeOf (nI g) (nI i) τ = τ.1 57 (30 * g + i) := fun i hi => by
    unfold v_cFun_typeOf
    rw [show nI g * (30 : Int32) = nI (g * 30) from nI_mul g 30, nI_add, jI_at_in (by omega) (by omega), show g * 30 + i = 30 * g + i by omega]
  unfold v_cTyp_leftOfFunction lfv
  rw [jI_at_in (by omega) (by omega), jI_at_in (by omega) (by omega), h43, h45, nI_sub hm, show nI m + (1 : Int32) = nI (m + 1) from nI_1 m, ety m (by omega), ety (m + 1) (by omega)]
  by_cases z0 : n - m = 0
  · rw [if_pos z0, z0, if_neg (by decide)]
  · obtain ⟨a1, a2⟩ := e1 (by omega)
    rw [if_neg z0, if_pos (show ¬ nI (n - m) = (0 : Int32) from nI_ne0 (by omega) (by omega)), a2, c_isBase τ a1]
    by_cases z1 : n - m = 1
    · rw [if_pos z1, z1, if_neg (by decide)]
      by_cases y : t1 < 2
      · rw [if_pos y, if_pos y, if_neg (by decide), show (2 : Int32) = nI 2 from rfl, nI_mul, nI_add, nI_add]
      · rw [if_neg y, if_neg y, if_pos rfl, if_pos (by decide)]
    · rw [if_neg z1, if_pos (show ¬ nI (n - m) = (1 : Int32) from fun q => z1 ((nI_eq (b := 1) (by omega) (by omega)).mp q))]
      by_cases z2 : n - m = 2
      · obtain ⟨b1, b2⟩ := e2 (by omega)
        rw [if_pos z2, z2, if_neg (by decide), b2, c_isBase τ b1]
        by_cases y : t1 < 2
        · rw [if_pos y, if_neg (by decide)]
          by_cases y2 : t2 < 2
          · rw [if_pos y2, if_neg (by decide), if_pos ⟨y, y2⟩, show (6 : Int32) = nI 6 from rfl, show (4 : Int32) = nI 4 from rfl, show (2 : Int32) = nI 2 from rfl, nI_mul, nI_mul, nI_add, nI_add, nI_add]
          · rw [if_neg y2, if_pos rfl, if_neg (fun q => y2 q.2)]
        · rw [if_neg y, if_pos rfl, if_neg (fun q => y q.1)]
      · rw [if_neg z2, if_pos (show ¬ nI (n - m) = (2 : Int32) from fun q => z2 ((nI_eq (b := 2) (by omega) (by omega)).mp q))]
theorem r_lfv {ρ : jx_S} {x g n m b t1 t2 : Nat} (hx : x < 3000) (hn : n ≤ 8) (hm : m ≤ n) (hb : b < 2) (h119 : ρ.1 119 x = nI m) (htk : p_r_takes (nI x) ρ = some (nI n, ρ)) (h0 : p_r_typeOf (nI x) (nI n) ρ = some (nI b, ρ)) (h1 : m < n → t1 < 14 ∧ p_r_typeOf (nI x) (nI m) ρ = some (nI t1, ρ)) (h2 : m + 1 < n → t2 < 14 ∧ p_r_typeOf (nI x) (nI (m + 1)) ρ = some (nI t2, ρ)) : p_r_left (nI x) ρ = some (lfv n m b t1 t2, ρ) := by
  unfold p_r_left p_r_left_48 p_r_left_69 lfv
  rw [htk, Option.bind_some]
  dsimp only
  rw [if_neg (nI_in hx (by omega)), nI_clamp (show x < 2 ^ 31 by omega), h0, Option.bind_some, h119]
  dsimp only
  rw [nI_sub hm]
  by_cases z0 : n - m = 0
  · rw [if_pos z0, z0, if_neg (by decide)]
  · obtain ⟨a1, a2⟩ := h1 (by omega)
    rw [if_neg z0, if_pos (show ¬ nI (n - m) = (0 : Int32) from nI_ne0 (by omega) (by omega))]
    by_cases z1 : n - m = 1
    · rw [if_pos z1, z1, if_neg (by decide), a2, Option.bind_some]
      dsimp only
      rw [if_pos (by decide)]
      by_cases y : t1 < 2
      · rw [if_pos y, if_neg (show ¬ (1 : Int32) < nI t1 from (nI_nlt (by omega) (by omega) : ¬ nI 1 < nI t1)), if_pos (by decide), if_neg (by decide), show (2 : Int32) = nI 2 from rfl, nI_mul, nI_add, nI_add]
      · rw [if_neg y, if_pos (show (1 : Int32) < nI t1 from (nI_lt (by omega) (by omega) : nI 1 < nI t1))]
    · rw [if_neg z1]
      by_cases z2 : n - m = 2
      · obtain ⟨b1, b2⟩ := h2 (by omega)
        rw [if_pos z2, z2, if_neg (by decide), a2, Option.bind_some]
        dsimp only
        rw [if_neg (by decide), show nI m + (1 : Int32) = nI (m + 1) from nI_1 m, b2, Option.bind_some]
        dsimp only
        by_cases y : t1 < 2
        · rw [if_neg (show ¬ (1 : Int32) < nI t1 from (nI_nlt (by omega) (by omega) : ¬ nI 1 < nI t1))]
          by_cases y2 : t2 < 2
          · rw [if_pos (show nI t2 ≤ (1 : Int32) from (nI_le (by omega) (by omega) : nI t2 ≤ nI 1)), if_pos (by decide), if_pos ⟨y, y2⟩, show (6 : Int32) = nI 6 from rfl, show (4 : Int32) = nI 4 from rfl, show (2 : Int32) = nI 2 from rfl, nI_mul, nI_mul, nI_add, nI_add, nI_add]
          · rw [if_neg (show ¬ nI t2 ≤ (1 : Int32) from (nI_ge (by omega) (by omega) : ¬ nI t2 ≤ nI 1)), if_neg (fun q => y2 q.2)]
        · rw [if_pos (show (1 : Int32) < nI t1 from (nI_lt (by omega) (by omega) : nI 1 < nI t1)), if_neg (fun q => y q.1)]
      · rw [if_neg z2, if_pos (show (3 : Int32) ≤ nI (n - m) from (nI_le (by omega) (by omega) : nI 3 ≤ nI (n - m))), if_pos (show ¬ nI (n - m) = (2 : Int32) from fun q => z2 ((nI_eq (b := 2) (by omega) (by omega)).mp q)), if_pos (by decide)]
theorem lfv_eq {n m b t1 t2 w : Nat} (hw : w < 14) (hb : b < 2) : lfv n m b t1 t2 = nI w → (n - m = 0 ∧ b = w) ∨ (n - m = 1 ∧ t1 < 2 ∧ 2 + 2 * t1 + b = w) ∨ (n - m = 2 ∧ t1 < 2 ∧ t2 < 2 ∧ 6 + 4 * t1 + 2 * t2 + b = w) := by
  intro h
  have nm : ∀ z : Nat, z < 2 ^ 31 → ¬ (-1 : Int32) = nI z := fun z hz q => by
    have := mG_eq hz
    rw [show (-nI 1 : Int32) = -1 from rfl, q] at this
    simp at this
  unfold lfv at h
  by_cases z0 : n - m = 0
  · rw [if_pos z0] at h; left; exact ⟨z0, (nI_eq (by omega) (by omega)).mp h⟩
  rw [if_neg z0] at h
  by_cases z1 : n - m = 1
  · rw [if_pos z1] at h
    by_cases y : t1 < 2
    · rw [if_pos y] at h; right; left; exact ⟨z1, y, (nI_eq (by omega) (by omega)).mp h⟩
    · rw [if_neg y] at h; exact absurd h (nm w (by omega))
  rw [if_neg z1] at h
  by_cases z2 : n - m = 2
  · rw [if_pos z2] at h
    by_cases y : t1 < 2 ∧ t2 < 2
    · rw [if_pos y] at h; right; right; exact ⟨z2, y.1, y.2, (nI_eq (by omega) (by omega)).mp h⟩
    · rw [if_neg y] at h; exact absurd h (nm w (by omega))
  · rw [if_neg z2] at h; exact absurd h (nm w (by omega))
