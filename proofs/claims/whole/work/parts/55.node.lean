/-! READER, 2: one node more, on both sides. -/
def tbase (σ : jx_S) (n : Nat) (o w x : Int32) : jx_S := jI_put 1201 (jI_put 1201 (jI_put 1201 (jI_put 1201 (jI_put 1201 (jI_put 1201 (jI_put 1201 (jI_put 1201 (jI_put 1201 (jx_i σ 3 9 (nI (n + 1))) 23 (nI (n + 1)) o) 25 (nI (n + 1)) w) 27 (nI (n + 1)) x) 29 (nI (n + 1)) 0) 31 (nI (n + 1)) 0) 33 (nI (n + 1)) 0) 35 (nI (n + 1)) 0) 37 (nI (n + 1)) 0) 39 (nI (n + 1)) 0
def pset (σ : jx_S) (cs : Nat → Nat) (p : Int32) : Nat → jx_S
  | 0 => σ
  | i + 1 => jI_put 1201 (pset σ cs p i) 31 (nI (cs i + 1)) p
theorem pset_ne {σ : jx_S} {cs : Nat → Nat} {p : Int32} {k : Nat} (hk : k ≠ 31) : ∀ m, (pset σ cs p m).1 k = σ.1 k := by
  intro m
  induction m with
  | zero => rfl
  | succ m ih => rw [pset, s_p_ne hk, ih]
theorem pset_2 {σ : jx_S} {cs : Nat → Nat} {p : Int32} : ∀ m, (pset σ cs p m).2 = σ.2 := by
  intro m
  induction m with
  | zero => rfl
  | succ m ih => rw [pset, s_p_2, ih]
theorem pset_out {σ : jx_S} {cs : Nat → Nat} {p : Int32} {j : Nat} : ∀ m, (∀ i, i < m → cs i < 1200) → (∀ i, i < m → j ≠ cs i + 1) → (pset σ cs p m).1 31 j = σ.1 31 j := by
  intro m
  induction m with
  | zero => intro _ _; rfl
  | succ m ih =>
    intro h0 h
    have := h0 m (by omega)
    rw [pset, s_p_eq, jI_up_in (by omega) (by omega), u_ne (h m (by omega)), ih (fun i hi => h0 i (by omega)) (fun i hi => h i (by omega))]
theorem pset_in {σ : jx_S} {cs : Nat → Nat} {p : Int32} : ∀ m, (∀ i, i < m → cs i < 1200) → ∀ i, i < m → (pset σ cs p m).1 31 (cs i + 1) = p := by
  intro m
  induction m with
  | zero => intro _ i hi; omega
  | succ m ih =>
    intro h0 i hi
    have := h0 m (by omega)
    rw [pset, s_p_eq, jI_up_in (by omega) (by omega)]
    by_cases h : cs i + 1 = cs m + 1
    · rw [u_eq h]
    · rw [u_ne h]
      exact ih (fun i hi => h0 i (by omega)) i (by
        rcases Nat.lt_or_ge i m with q | q
        · exact q
        · exact absurd (by rw [show i = m by omega]) h)
theorem q_c_tadd (σ : jx_S) (n m : Nat) (o w x : Int32) (cs : Nat → Nat) (h9 : σ.1 3 9 = nI n) (hn : n < 1200) (hm : m < 1200) (hcs : ∀ i, i < m → cs i < n) (hx : x = nI (if 0 < m then cs 0 + 1 else 0)) (hnx : ∀ i, i < m → σ.1 29 (cs i + 1) = nI (if i + 1 < m then cs (i + 1) + 1 else 0)) :
    p_cTre_add o w x σ = some (nI (n + 1), pset (tbase σ n o w x) cs (nI (n + 1)) m) := by
  unfold p_cTre_add p_cTre_add_79
  have e1 : nI n + 1 = nI (n + 1) := nI_1 n
  rw [h9, e1]
  have hb : ∀ y, (jI_put 1201 (jI_put 1201 (jI_put 1201 (jI_put 1201 (jI_put 1201 (jx_i σ 3 9 (nI (n + 1))) 23 (nI (n + 1)) o) 25 (nI (n + 1)) w) 27 (nI (n + 1)) x) 29 (nI (n + 1)) 0) 31 (nI (n + 1)) y).1 3 9 = nI (n + 1) := by
    intro y
    simp (disch := first | assumption | decide | omega) only [nI_lit, cT_lt, cF_lt, cT_le, cF_le, cT_eq, cF_eq, nF_le, mF_eq, mG_eq, mT_lt, eq_self, nI_clamp, nI_add, Nat.add_zero, nI_sub, s_i_ne, s_i_eq, s_i_2, s_l_1, s_l_ne, s_l_eq, s_p_ne, s_p_eq, s_p_2, s_q_1, s_q_ne, s_q_eq, u_ne, u_eq, v_ne, v_eq, w_ne, w_eq, jI_at_in, jL_at_in, false_or, or_false, true_or, or_true, true_and, and_true, false_and, and_false, not_true_eq_false, not_false_eq_true, ↓reduceIte, Option.bind_some, Option.map_some]
  rw [hb]
  show ((p_cTre_adopt (nI (n + 1)) (tbase σ n o w x)).bind fun q1 => some (q1.1 3 9, q1)) = _
  have h29 : (tbase σ n o w x).1 29 = upd (σ.1 29) (n + 1) 0 := by unfold tbase; simp (disch := first | assumption | decide | omega) only [nI_lit, cT_lt, cF_lt, cT_le, cF_le, cT_eq, cF_eq, nF_le, mF_eq, mG_eq, mT_lt, eq_self, nI_clamp, nI_add, Nat.add_zero, nI_sub, s_i_ne, s_i_eq, s_i_2, s_l_1, s_l_ne, s_l_eq, s_p_ne, s_p_eq, s_p_2, s_q_1, s_q_ne, s_q_eq, u_ne, u_eq, v_ne, v_eq, w_ne, w_eq, jI_at_in, jL_at_in, false_or, or_false, true_or, or_true, true_and, and_true, false_and, and_false, not_true_eq_false, not_false_eq_true, ↓reduceIte, Option.bind_some, Option.map_some]
  have h27 : (tbase σ n o w x).1 27 = upd (σ.1 27) (n + 1) x := by unfold tbase; simp (disch := first | assumption | decide | omega) only [nI_lit, cT_lt, cF_lt, cT_le, cF_le, cT_eq, cF_eq, nF_le, mF_eq, mG_eq, mT_lt, eq_self, nI_clamp, nI_add, Nat.add_zero, nI_sub, s_i_ne, s_i_eq, s_i_2, s_l_1, s_l_ne, s_l_eq, s_p_ne, s_p_eq, s_p_2, s_q_1, s_q_ne, s_q_eq, u_ne, u_eq, v_ne, v_eq, w_ne, w_eq, jI_at_in, jL_at_in, false_or, or_false, true_or, or_true, true_and, and_true, false_and, and_false, not_true_eq_false, not_false_eq_true, ↓reduceIte, Option.bind_some, Option.map_some]
  have h39 : (tbase σ n o w x).1 3 9 = nI (n + 1) := by unfold tbase; simp (disch := first | assumption | decide | omega) only [nI_lit, cT_lt, cF_lt, cT_le, cF_le, cT_eq, cF_eq, nF_le, mF_eq, mG_eq, mT_lt, eq_self, nI_clamp, nI_add, Nat.add_zero, nI_sub, s_i_ne, s_i_eq, s_i_2, s_l_1, s_l_ne, s_l_eq, s_p_ne, s_p_eq, s_p_2, s_q_1, s_q_ne, s_q_eq, u_ne, u_eq, v_ne, v_eq, w_ne, w_eq, jI_at_in, jL_at_in, false_or, or_false, true_or, or_true, true_and, and_true, false_and, and_false, not_true_eq_false, not_false_eq_true, ↓reduceIte, Option.bind_some, Option.map_some]
  have key : p_cTre_adopt (nI (n + 1)) (tbase σ n o w x) = some (pset (tbase σ n o w x) cs (nI (n + 1)) m) := by
    unfold p_cTre_adopt p_cTre_adopt_11
    have g0 : jI_at 1201 ((tbase σ n o w x).1 27) (nI (n + 1)) = nI (if 0 < m then cs 0 + 1 else 0) := by
      rw [h27, jI_at_in (by omega) (by omega), u_eq rfl, hx]
    rw [g0]
    have key := jx_loop_for (f := fun s : Int32 × Int32 × Int32 × jx_S => p_cTre_adopt_11_s s.1 s.2.1 s.2.2.1 (s.2.2.2)) (fun i => (nI (n + 1), nI (if i < m then cs i + 1 else 0), nI i, pset (tbase σ n o w x) cs (nI (n + 1)) i)) m (X := some (pset (tbase σ n o w x) cs (nI (n + 1)) m)) (n := 100000000) (by
      intro i hi
      have := hcs i hi
      show p_cTre_adopt_11_s (nI (n + 1)) (nI (if i < m then cs i + 1 else 0)) (nI i) (pset (tbase σ n o w x) cs (nI (n + 1)) i) = _
      unfold p_cTre_adopt_11_s
      rw [if_pos hi, pset_ne (by decide), h29]
      simp (disch := first | assumption | decide | omega) only [hnx i hi, pset, nI_lit, cT_lt, cF_lt, cT_le, cF_le, cT_eq, cF_eq, nF_le, mF_eq, mG_eq, mT_lt, eq_self, nI_clamp, nI_add, Nat.add_zero, nI_sub, s_i_ne, s_i_eq, s_i_2, s_l_1, s_l_ne, s_l_eq, s_p_ne, s_p_eq, s_p_2, s_q_1, s_q_ne, s_q_eq, u_ne, u_eq, v_ne, v_eq, w_ne, w_eq, jI_at_in, jL_at_in, false_or, or_false, true_or, or_true, true_and, and_true, false_and, and_false, not_true_eq_false, not_false_eq_true, ↓reduceIte, Option.bind_some, Option.map_some]) (by
      show p_cTre_adopt_11_s (nI (n + 1)) (nI (if m < m then cs m + 1 else 0)) (nI m) (pset (tbase σ n o w x) cs (nI (n + 1)) m) = _
      unfold p_cTre_adopt_11_s
      rw [if_neg (Nat.lt_irrefl m)]
      simp (disch := first | assumption | decide | omega) only [nI_lit, cT_lt, cF_lt, cT_le, cF_le, cT_eq, cF_eq, nF_le, mF_eq, mG_eq, mT_lt, eq_self, nI_clamp, nI_add, Nat.add_zero, nI_sub, s_i_ne, s_i_eq, s_i_2, s_l_1, s_l_ne, s_l_eq, s_p_ne, s_p_eq, s_p_2, s_q_1, s_q_ne, s_q_eq, u_ne, u_eq, v_ne, v_eq, w_ne, w_eq, jI_at_in, jL_at_in, false_or, or_false, true_or, or_true, true_and, and_true, false_and, and_false, not_true_eq_false, not_false_eq_true, ↓reduceIte, Option.bind_some, Option.map_some]) (by omega)
    exact key
  rw [key, Option.bind_some, pset_ne (by decide), h39]
def rnode (ρ : jx_S) (n : Nat) (o w x y z lo : Int32) : jx_S := jx_i (jx_i (jx_i (jx_i (jx_i (jx_i (jx_i (jx_i (jx_i (jx_i (jx_i (jx_i (jx_i (jx_i ρ 112 n o) 113 n w) 114 n x) 115 n y) 116 n z) 117 n (-1)) 118 n (-1)) 119 n 0) 120 n (-1)) 122 n (-1)) 123 n (-1)) 125 n 0) 121 n lo) 106 25 (nI (n + 1))
theorem q_r_node_leaf (ρ : jx_S) (n : Nat) (o w y z : Int32) (h : ρ.1 106 25 = nI n) (hn : n < 3000) : p_r_node o w (-1) y z ρ = some (nI n, rnode ρ n o w (-1) y z (nI n)) := by
  unfold p_r_node p_r_node_125 rnode
  rw [h]
  simp only [if_neg (nI_in hn (by decide : 3000 < 2 ^ 31)), nI_clamp (show n < 2 ^ 31 by omega), if_pos (show (-1 : Int32) < 0 by decide)]
  simp (disch := first | assumption | decide | omega) only [h, nI_lit, cT_lt, cF_lt, cT_le, cF_le, cT_eq, cF_eq, nF_le, mF_eq, mG_eq, mT_lt, eq_self, nI_clamp, nI_add, Nat.add_zero, nI_sub, s_i_ne, s_i_eq, s_i_2, s_l_1, s_l_ne, s_l_eq, s_p_ne, s_p_eq, s_p_2, s_q_1, s_q_ne, s_q_eq, u_ne, u_eq, v_ne, v_eq, w_ne, w_eq, jI_at_in, jL_at_in, false_or, or_false, true_or, or_true, true_and, and_true, false_and, and_false, not_true_eq_false, not_false_eq_true, ↓reduceIte, Option.bind_some, Option.map_some]
theorem q_r_node_in (ρ : jx_S) (n x : Nat) (o w y z : Int32) (h : ρ.1 106 25 = nI n) (hn : n < 3000) (hx : x < 3000) : p_r_node o w (nI x) y z ρ = some (nI n, rnode ρ n o w (nI x) y z (ρ.1 121 x)) := by
  unfold p_r_node p_r_node_125 rnode
  rw [h]
  simp only [if_neg (nI_in hn (by decide : 3000 < 2 ^ 31)), nI_clamp (show n < 2 ^ 31 by omega), if_neg (nI_pos (show x < 2 ^ 31 by omega)), if_neg (nI_in hx (by decide : 3000 < 2 ^ 31)), nI_clamp (show x < 2 ^ 31 by omega)]
  simp (disch := first | assumption | decide | omega) only [h, nI_lit, cT_lt, cF_lt, cT_le, cF_le, cT_eq, cF_eq, nF_le, mF_eq, mG_eq, mT_lt, eq_self, nI_clamp, nI_add, Nat.add_zero, nI_sub, s_i_ne, s_i_eq, s_i_2, s_l_1, s_l_ne, s_l_eq, s_p_ne, s_p_eq, s_p_2, s_q_1, s_q_ne, s_q_eq, u_ne, u_eq, v_ne, v_eq, w_ne, w_eq, jI_at_in, jL_at_in, false_or, or_false, true_or, or_true, true_and, and_true, false_and, and_false, not_true_eq_false, not_false_eq_true, ↓reduceIte, Option.bind_some, Option.map_some]
