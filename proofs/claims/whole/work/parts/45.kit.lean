/-! LAYER 2, tools: conditions on small numbers as True and False, stores and reads, loops. -/
theorem nI_lit (n : Nat) : (@OfNat.ofNat Int32 n Int32.instOfNat) = nI n := rfl
theorem cT_lt {a b : Nat} (h : a < b) (hb : b < 2 ^ 31) : (nI a < nI b) = True := eq_true (nI_lt h hb)
theorem cF_lt {a b : Nat} (h : b ≤ a) (ha : a < 2 ^ 31) : (nI a < nI b) = False := eq_false (nI_nlt h ha)
theorem cT_le {a b : Nat} (h : a ≤ b) (hb : b < 2 ^ 31) : (nI a ≤ nI b) = True := eq_true (nI_le h hb)
theorem cF_le {a b : Nat} (h : b < a) (ha : a < 2 ^ 31) : (nI a ≤ nI b) = False := eq_false (nI_ge h ha)
theorem cT_eq {a b : Nat} (h : a = b) : (nI a = nI b) = True := eq_true (by rw [h])
theorem cF_eq {a b : Nat} (h : a ≠ b) (ha : a < 2 ^ 31) (hb : b < 2 ^ 31) : (nI a = nI b) = False := eq_false (fun q => h ((nI_eq ha hb).mp q))
theorem nF_le {a b : Nat} (h : b < a) : (a ≤ b) = False := eq_false (by omega)
theorem nI_sub {a b : Nat} (h : b ≤ a) : nI a - nI b = nI (a - b) := by
  have e : nI (a - b) + nI b = nI a := by rw [nI_add, Nat.sub_add_cancel h]
  rw [← e, Int32.add_sub_cancel]
theorem mF_eq {a : Nat} (h : a < 2 ^ 31) : (nI a = -nI 1) = False := eq_false (fun q => by
  have h1 := congrArg Int32.toInt q
  rw [nI_toInt h] at h1
  have : (-nI 1 : Int32).toInt = -1 := by decide
  omega)
theorem mG_eq {a : Nat} (h : a < 2 ^ 31) : (-nI 1 = nI a) = False := eq_false (fun q => by
  have := mF_eq h
  rw [← q] at this
  exact cast this rfl)
theorem mT_lt : (-nI 1 < nI 0) = True := eq_true (by decide)
theorem s_i_ne {σ : jx_S} {k j a : Nat} {v : Int32} (h : a ≠ k) : (jx_i σ k j v).1 a = σ.1 a := by
  funext b
  show (if a = k ∧ b = j then v else σ.1 a b) = _
  rw [if_neg (fun q => h q.1)]
theorem s_i_eq {σ : jx_S} {k j : Nat} {v : Int32} : (jx_i σ k j v).1 k = upd (σ.1 k) j v := jx_i_upd σ k j v
theorem s_i_2 {σ : jx_S} {k j : Nat} {v : Int32} : (jx_i σ k j v).2 = σ.2 := rfl
theorem s_l_1 {σ : jx_S} {k j : Nat} {v : Int64} : (jx_l σ k j v).1 = σ.1 := rfl
theorem s_l_ne {σ : jx_S} {k j a : Nat} {v : Int64} (h : a ≠ k) : (jx_l σ k j v).2 a = σ.2 a := by
  funext b
  show (if a = k ∧ b = j then v else σ.2 a b) = _
  rw [if_neg (fun q => h q.1)]
theorem s_l_eq {σ : jx_S} {k j : Nat} {v : Int64} : (jx_l σ k j v).2 k = vp_updL (σ.2 k) j v := jx_l_upd σ k j v
theorem s_p_ne {n : Nat} {σ : jx_S} {k a : Nat} {i v : Int32} (h : a ≠ k) : (jI_put n σ k i v).1 a = σ.1 a := if_neg h
theorem s_p_eq {n : Nat} {σ : jx_S} {k : Nat} {i v : Int32} : (jI_put n σ k i v).1 k = jI_up n (σ.1 k) i v := if_pos rfl
theorem s_p_2 {n : Nat} {σ : jx_S} {k : Nat} {i v : Int32} : (jI_put n σ k i v).2 = σ.2 := rfl
theorem s_q_1 {n : Nat} {σ : jx_S} {k : Nat} {i : Int32} {v : Int64} : (jL_put n σ k i v).1 = σ.1 := rfl
theorem s_q_ne {n : Nat} {σ : jx_S} {k a : Nat} {i : Int32} {v : Int64} (h : a ≠ k) : (jL_put n σ k i v).2 a = σ.2 a := if_neg h
theorem s_q_eq {n : Nat} {σ : jx_S} {k : Nat} {i : Int32} {v : Int64} : (jL_put n σ k i v).2 k = jL_up n (σ.2 k) i v := if_pos rfl
theorem u_ne {f : Nat → Int32} {j a : Nat} {v : Int32} (h : a ≠ j) : upd f j v a = f a := if_neg h
theorem u_eq {f : Nat → Int32} {j a : Nat} {v : Int32} (h : a = j) : upd f j v a = v := if_pos h
theorem v_ne {f : Nat → Int64} {j a : Nat} {v : Int64} (h : a ≠ j) : vp_updL f j v a = f a := if_neg h
theorem v_eq {f : Nat → Int64} {j a : Nat} {v : Int64} (h : a = j) : vp_updL f j v a = v := if_pos h
theorem w_ne {n : Nat} {f : Nat → Int32} {j : Nat} {v : Int32} (hj : j < n) (hn : n < 2 ^ 31) : jI_up n f (nI j) v = upd f j v := jI_up_in hj hn
theorem w_eq {n : Nat} {f : Nat → Int64} {j : Nat} {v : Int64} (hj : j < n) (hn : n < 2 ^ 31) : jL_up n f (nI j) v = vp_updL f j v := jL_up_in hj hn
/-- loops whose states are known -/
theorem jx_loop_to {α β : Type} {f : α → Option (α ⊕ β)} (g : Nat → α) (m : Nat) (hs : ∀ i, i < m → f (g i) = some (.inl (g (i + 1)))) : ∀ n, jx_loop (n + m) f (g 0) = jx_loop n f (g m) := by
  induction m with
  | zero => intro n; rfl
  | succ m ih =>
    intro n
    rw [show n + (m + 1) = (n + 1) + m by omega, ih (fun i hi => hs i (by omega)) (n + 1)]
    exact jx_loop_inl (hs m (by omega))
theorem jx_loop_out {α β : Type} {f : α → Option (α ⊕ β)} {s : α} {X : Option β} (h : f s = X.map Sum.inr) (n : Nat) : jx_loop (n + 1) f s = X := by
  rw [jx_loop, h]
  cases X <;> rfl
theorem jx_loop_for {α β : Type} {f : α → Option (α ⊕ β)} (g : Nat → α) (m : Nat) {X : Option β} (hs : ∀ i, i < m → f (g i) = some (.inl (g (i + 1)))) (hx : f (g m) = X.map Sum.inr) {n : Nat} (hn : m < n) : jx_loop n f (g 0) = X := by
  obtain ⟨k, rfl⟩ : ∃ k, n = (k + 1) + m := ⟨n - m - 1, by omega⟩
  rw [jx_loop_to g m hs, jx_loop_out hx]
/-- a try: the reference's todo -/
theorem q_r_later (σ : jx_S) (n : Nat) (x1 x2 x3 : Int32) (hn : σ.1 106 45 = nI n) (h : n < 4000) : p_r_later x1 x2 x3 σ = some (jx_i (jx_i (jx_i (jx_i σ 138 n x1) 139 n x2) 140 n x3) 106 45 (nI (n + 1))) := by
  unfold p_r_later
  simp (disch := first | assumption | decide | omega) only [hn, nI_lit, cT_lt, cF_lt, cT_le, cF_le, cT_eq, cF_eq, nF_le, mF_eq, mG_eq, mT_lt, eq_self, nI_clamp, nI_add, Nat.add_zero, nI_sub, s_i_ne, s_i_eq, s_i_2, s_l_1, s_l_ne, s_l_eq, s_p_ne, s_p_eq, s_p_2, s_q_1, s_q_ne, s_q_eq, u_ne, u_eq, v_ne, v_eq, w_ne, w_eq, jI_at_in, jL_at_in, false_or, or_false, true_or, or_true, true_and, and_true, false_and, and_false, not_true_eq_false, not_false_eq_true, ↓reduceIte, Option.bind_some, Option.map_some]
