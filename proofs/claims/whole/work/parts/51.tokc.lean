/-! TOKENS, 2: one token, on both sides. -/
def sgk (o : Nat) : Nat := if o = 40 then 16 else (if o = 41 then 17 else (if o = 42 then 25 else (if o = 43 then 23 else (if o = 45 then 24 else (if o = 47 then 26 else (if o = 58 then 18 else (if o = 59 then 20 else (if o = 60 then 27 else (if o = 61 then 19 else (if o = 124 then 22 else 0))))))))))
theorem q_sg0 : ∀ o, o < 256 → v_cTok_signKind (nI o) s0 = nI (sgk o) ∧ sgk o < 28 := by decide +kernel
theorem q_c_sg (σ : jx_S) {o : Nat} (h : o < 256) : v_cTok_signKind (nI o) σ = nI (sgk o) := (q_sg0 o h).1
def tadd (τ : jx_S) (k p : Int32) (c : Int64) : jx_S := jx_i (jL_put 1201 (jI_put 1201 (jI_put 1201 τ 15 (τ.1 2 4) k) 17 (τ.1 2 4) p) 19 (τ.1 2 4) c) 2 4 (τ.1 2 4 + 1)
def ctell (τ : jx_S) (n p : Int32) : jx_S := jx_i (jx_i τ 1 0 n) 1 1 p
theorem q_c_tell (τ : jx_S) (n p : Int32) (h : τ.1 1 0 = 0) : p_cFau_tell n p τ = some (ctell τ n p) := by
  unfold p_cFau_tell
  rw [if_neg (by rw [h]; decide)]
  rfl
theorem lg_eqN (x y : Int64) : (lg_cmp x y = nI 0) = (x = y) := lg_eq x y
theorem lg_leN (x y : Int64) : (lg_cmp x y ≤ nI 0) = (x ≤ y) := lg_le x y
theorem q_c_word (τ : jx_S) (x : Nat) (hx : x < 2 ^ 63) (hw : ∀ k, 3 ≤ k → k < 16 → τ.2 21 k = lN (wd k)) : p_cTok_wordOrName (lN x) τ = some (nI (wkF 13 x), τ) := by
  unfold p_cTok_wordOrName p_cTok_wordOrName_2
  have key : ∀ n k N, k + n = 16 → 3 ≤ k → n < N → jx_loop N (fun s : Int64 × Int32 × jx_S => p_cTok_wordOrName_2_s s.1 s.2.1 (s.2.2)) (lN x, nI k, τ) = some (nI (wkF n x), τ) := by
    intro n
    induction n with
    | zero =>
      intro k N h1 h2 h3
      obtain ⟨N, rfl⟩ : ∃ M, N = M + 1 := ⟨N - 1, by omega⟩
      refine jx_loop_out ?_ N
      show p_cTok_wordOrName_2_s (lN x) (nI k) τ = _
      unfold p_cTok_wordOrName_2_s
      simp (disch := first | assumption | decide | omega) only [nI_lit, cT_lt, cF_lt, cT_le, cF_le, cT_eq, cF_eq, nF_le, mF_eq, mG_eq, mT_lt, eq_self, nI_clamp, nI_add, Nat.add_zero, nI_sub, s_i_ne, s_i_eq, s_i_2, s_l_1, s_l_ne, s_l_eq, s_p_ne, s_p_eq, s_p_2, s_q_1, s_q_ne, s_q_eq, u_ne, u_eq, v_ne, v_eq, w_ne, w_eq, jI_at_in, jL_at_in, false_or, or_false, true_or, or_true, true_and, and_true, false_and, and_false, not_true_eq_false, not_false_eq_true, ↓reduceIte, Option.bind_some, Option.map_some]
      rfl
    | succ n ih =>
      intro k N h1 h2 h3
      obtain ⟨N, rfl⟩ : ∃ M, N = M + 1 := ⟨N - 1, by omega⟩
      have e : k = 15 - n := by omega
      have hk := (wd_cdf k (by omega) h2).2.2.2
      have e1 : (lN (wd k) = lN x) = (wd k = x) := propext (pk_lEQ (by omega) hx)
      by_cases hc : wd k = x
      · refine jx_loop_out ?_ N
        show p_cTok_wordOrName_2_s (lN x) (nI k) τ = _
        unfold p_cTok_wordOrName_2_s
        rw [wkF, ← e]
        simp (disch := first | assumption | decide | omega) only [hw, lg_eqN, e1, hc, nI_lit, cT_lt, cF_lt, cT_le, cF_le, cT_eq, cF_eq, nF_le, mF_eq, mG_eq, mT_lt, eq_self, nI_clamp, nI_add, Nat.add_zero, nI_sub, s_i_ne, s_i_eq, s_i_2, s_l_1, s_l_ne, s_l_eq, s_p_ne, s_p_eq, s_p_2, s_q_1, s_q_ne, s_q_eq, u_ne, u_eq, v_ne, v_eq, w_ne, w_eq, jI_at_in, jL_at_in, false_or, or_false, true_or, or_true, true_and, and_true, false_and, and_false, not_true_eq_false, not_false_eq_true, ↓reduceIte, Option.bind_some, Option.map_some]
      · rw [jx_loop_inl (s1 := (lN x, nI (k + 1), τ)) (by
          show p_cTok_wordOrName_2_s (lN x) (nI k) τ = _
          unfold p_cTok_wordOrName_2_s
          simp (disch := first | assumption | decide | omega) only [hw, lg_eqN, e1, hc, nI_lit, cT_lt, cF_lt, cT_le, cF_le, cT_eq, cF_eq, nF_le, mF_eq, mG_eq, mT_lt, eq_self, nI_clamp, nI_add, Nat.add_zero, nI_sub, s_i_ne, s_i_eq, s_i_2, s_l_1, s_l_ne, s_l_eq, s_p_ne, s_p_eq, s_p_2, s_q_1, s_q_ne, s_q_eq, u_ne, u_eq, v_ne, v_eq, w_ne, w_eq, jI_at_in, jL_at_in, false_or, or_false, true_or, or_true, true_and, and_true, false_and, and_false, not_true_eq_false, not_false_eq_true, ↓reduceIte, Option.bind_some, Option.map_some])]
        rw [ih (k + 1) N (by omega) (by omega) (by omega), wkF, ← e, if_neg hc]
  exact key 13 3 100000000 (by omega) (by omega) (by omega)
theorem q_c_name_9 (τ : jx_S) (T : Nat → Nat) (z a e : Nat) (htx : tx (τ.1 11) T z) (hz : z ≤ 4000) (he : ex (fun j => lc (T j) ≠ 0) z a e) : p_cTok_readName (nI z) (nI a) τ = p_cTok_readName_58 (nI a) (lN (cdf (fun j => lc (T (a + j))) (e - a))) (nI e) τ := by
  obtain ⟨e1, e2, e3, e4⟩ := he
  unfold p_cTok_readName p_cTok_readName_9
  have key := jx_loop_for (f := fun s : Int32 × Int32 × Int64 × Int32 × Int32 × jx_S => p_cTok_readName_9_s s.1 s.2.1 s.2.2.1 s.2.2.2.1 s.2.2.2.2.1 (s.2.2.2.2.2)) (fun i => (nI z, nI a, lN (cdf (fun j => lc (T (a + j))) i), nI (a + i), nI (a + i), τ)) (e - a) (X := p_cTok_readName_58 (nI a) (lN (cdf (fun j => lc (T (a + j))) (e - a))) (nI e) τ) (n := 100000000) (by
    intro i hi
    show p_cTok_readName_9_s (nI z) (nI a) (lN _) (nI (a + i)) (nI (a + i)) τ = _
    unfold p_cTok_readName_9_s
    have h1 := tx_at htx (show a + i < z by omega) hz
    have h2 := q_c_lc τ (htx (a + i) (by omega)).1
    have h3 := e3 (a + i) (by omega) (by omega)
    have h4 := lc_le (T (a + i))
    rw [h1, h2]
    simp (disch := first | assumption | decide | omega) only [nI_l, nI_lit, cT_lt, cF_lt, cT_le, cF_le, cT_eq, cF_eq, nF_le, mF_eq, mG_eq, mT_lt, eq_self, nI_clamp, nI_add, Nat.add_zero, nI_sub, s_i_ne, s_i_eq, s_i_2, s_l_1, s_l_ne, s_l_eq, s_p_ne, s_p_eq, s_p_2, s_q_1, s_q_ne, s_q_eq, u_ne, u_eq, v_ne, v_eq, w_ne, w_eq, jI_at_in, jL_at_in, false_or, or_false, true_or, or_true, true_and, and_true, false_and, and_false, not_true_eq_false, not_false_eq_true, ↓reduceIte, Option.bind_some, Option.map_some]
    rw [cdf, ← lN_add, ← lN_mul]
    rfl) (by
    show p_cTok_readName_9_s (nI z) (nI a) (lN _) (nI (a + (e - a))) (nI (a + (e - a))) τ = _
    unfold p_cTok_readName_9_s
    rw [show a + (e - a) = e by omega]
    by_cases hez : e < z
    · have h1 := tx_at htx hez hz
      have h2 := q_c_lc τ (htx e (by omega)).1
      have h3 : lc (T e) = 0 := Decidable.not_not.mp (e4 hez)
      rw [h1, h2, h3]
      simp (disch := first | assumption | decide | omega) only [nI_lit, cT_lt, cF_lt, cT_le, cF_le, cT_eq, cF_eq, nF_le, mF_eq, mG_eq, mT_lt, eq_self, nI_clamp, nI_add, Nat.add_zero, nI_sub, s_i_ne, s_i_eq, s_i_2, s_l_1, s_l_ne, s_l_eq, s_p_ne, s_p_eq, s_p_2, s_q_1, s_q_ne, s_q_eq, u_ne, u_eq, v_ne, v_eq, w_ne, w_eq, jI_at_in, jL_at_in, false_or, or_false, true_or, or_true, true_and, and_true, false_and, and_false, not_true_eq_false, not_false_eq_true, ↓reduceIte, Option.bind_some, Option.map_some]
    · simp (disch := first | assumption | decide | omega) only [nI_lit, cT_lt, cF_lt, cT_le, cF_le, cT_eq, cF_eq, nF_le, mF_eq, mG_eq, mT_lt, eq_self, nI_clamp, nI_add, Nat.add_zero, nI_sub, s_i_ne, s_i_eq, s_i_2, s_l_1, s_l_ne, s_l_eq, s_p_ne, s_p_eq, s_p_2, s_q_1, s_q_ne, s_q_eq, u_ne, u_eq, v_ne, v_eq, w_ne, w_eq, jI_at_in, jL_at_in, false_or, or_false, true_or, or_true, true_and, and_true, false_and, and_false, not_true_eq_false, not_false_eq_true, ↓reduceIte, Option.bind_some, Option.map_some]) (by omega)
  exact key
theorem q_c_name (τ : jx_S) (T : Nat → Nat) (z a e : Nat) (htx : tx (τ.1 11) T z) (hz : z ≤ 4000) (hw : ∀ k, 3 ≤ k → k < 16 → τ.2 21 k = lN (wd k)) (haz : a < z) (hl : 97 ≤ T a ∧ T a ≤ 122) (he : ex (fun j => lc (T j) ≠ 0) z a e) (ht : τ.1 1 0 = 0) :
    p_cTok_readToken (nI z) (nI a) τ = if e - a ≤ 12 then some (nI e, tadd τ (nI (wkF 13 (cdf (fun j => lc (T (a + j))) (e - a)))) (nI a) (lN (cdf (fun j => lc (T (a + j))) (e - a)))) else some (nI e, ctell τ 1 (nI a)) := by
  unfold p_cTok_readToken
  have h0 := he
  obtain ⟨e1, e2, e3, e4⟩ := he
  rw [tx_at htx haz hz, q_c_lc τ (htx a haz).1, q_c_dg τ (htx a haz).1, dgi_0 (by omega), if_pos (by
    have := lc_iff.mpr (Or.inl hl)
    have := lc_le (T a)
    simp (disch := first | assumption | decide | omega) only [nI_lit, cT_lt, cF_lt, cT_le, cF_le, cT_eq, cF_eq, nF_le, mF_eq, mG_eq, mT_lt, eq_self, nI_clamp, nI_add, Nat.add_zero, nI_sub, s_i_ne, s_i_eq, s_i_2, s_l_1, s_l_ne, s_l_eq, s_p_ne, s_p_eq, s_p_2, s_q_1, s_q_ne, s_q_eq, u_ne, u_eq, v_ne, v_eq, w_ne, w_eq, jI_at_in, jL_at_in, false_or, or_false, true_or, or_true, true_and, and_true, false_and, and_false, not_true_eq_false, not_false_eq_true, ↓reduceIte, Option.bind_some, Option.map_some]), if_pos rfl, q_c_name_9 τ T z a e htx hz h0]
  unfold p_cTok_readName_58
  by_cases hc : e - a ≤ 12
  · have hx : cdf (fun j => lc (T (a + j))) (e - a) < 2 ^ 63 := by
      have h1 := cdf_lt (fun j => lc (T (a + j))) (e - a) (fun j _ => lc_le _)
      have h2 : 37 ^ (e - a) ≤ 37 ^ 12 := Nat.pow_le_pow_right (by omega) hc
      omega
    simp (disch := first | assumption | decide | omega) only [hc, q_c_word τ _ hx hw, nI_lit, cT_lt, cF_lt, cT_le, cF_le, cT_eq, cF_eq, nF_le, mF_eq, mG_eq, mT_lt, eq_self, nI_clamp, nI_add, Nat.add_zero, nI_sub, s_i_ne, s_i_eq, s_i_2, s_l_1, s_l_ne, s_l_eq, s_p_ne, s_p_eq, s_p_2, s_q_1, s_q_ne, s_q_eq, u_ne, u_eq, v_ne, v_eq, w_ne, w_eq, jI_at_in, jL_at_in, false_or, or_false, true_or, or_true, true_and, and_true, false_and, and_false, not_true_eq_false, not_false_eq_true, ↓reduceIte, Option.bind_some, Option.map_some]
    rfl
  · simp (disch := first | assumption | decide | omega) only [hc, q_c_tell τ _ _ ht, nI_lit, cT_lt, cF_lt, cT_le, cF_le, cT_eq, cF_eq, nF_le, mF_eq, mG_eq, mT_lt, eq_self, nI_clamp, nI_add, Nat.add_zero, nI_sub, s_i_ne, s_i_eq, s_i_2, s_l_1, s_l_ne, s_l_eq, s_p_ne, s_p_eq, s_p_2, s_q_1, s_q_ne, s_q_eq, u_ne, u_eq, v_ne, v_eq, w_ne, w_eq, jI_at_in, jL_at_in, false_or, or_false, true_or, or_true, true_and, and_true, false_and, and_false, not_true_eq_false, not_false_eq_true, ↓reduceIte, Option.bind_some, Option.map_some]
def ncf (T : Nat → Nat) (a : Nat) : Nat → Nat
  | 0 => 0
  | n + 1 => min (ncf T a n * 10 + T (a + n) - 48) (2 ^ 32)
def nrf (T : Nat → Nat) (a : Nat) : Nat → Nat
  | 0 => 0
  | n + 1 => if nrf T a n > 2147483647 then nrf T a n else 10 * nrf T a n + T (a + n) - 48
theorem ncf_le (T : Nat → Nat) (a n : Nat) : ncf T a n ≤ 2 ^ 32 := by
  cases n with
  | zero => exact Nat.zero_le _
  | succ n => exact Nat.min_le_right _ _
theorem nrf_le (T : Nat → Nat) (a : Nat) : ∀ n, (∀ j, j < n → T (a + j) ≤ 57) → nrf T a n ≤ 21474836479 := by
  intro n
  induction n with
  | zero => intro _; exact Nat.zero_le _
  | succ n ih =>
    intro h
    have h1 := ih (fun j hj => h j (by omega))
    have h2 := h n (by omega)
    rw [nrf]
    split <;> omega
theorem ncr (T : Nat → Nat) (a : Nat) : ∀ n, (∀ j, j < n → 48 ≤ T (a + j)) → (ncf T a n = nrf T a n ∧ ncf T a n ≤ 2147483647) ∨ (2147483647 < ncf T a n ∧ 2147483647 < nrf T a n) := by
  intro n
  induction n with
  | zero => intro _; left; exact ⟨rfl, Nat.zero_le _⟩
  | succ n ih =>
    intro h
    have h2 := h n (by omega)
    rw [ncf, nrf]
    rcases ih (fun j hj => h j (by omega)) with ⟨h3, h4⟩ | ⟨h3, h4⟩
    · rw [if_neg (by omega)]; omega
    · rw [if_pos h4]; right; omega
theorem q_c_num (τ : jx_S) (T : Nat → Nat) (z a e : Nat) (htx : tx (τ.1 11) T z) (hz : z ≤ 4000) (haz : a < z) (hl : 48 ≤ T a ∧ T a ≤ 57) (he : ex (fun j => 48 ≤ T j ∧ T j ≤ 57) z a e) (ht : τ.1 1 0 = 0) :
    p_cTok_readToken (nI z) (nI a) τ = if ncf T a (e - a) ≤ 2147483647 then some (nI e, tadd τ 2 (nI a) (lN (ncf T a (e - a)))) else some (nI e, ctell τ 1 (nI a)) := by
  unfold p_cTok_readToken
  obtain ⟨e1, e2, e3, e4⟩ := he
  rw [tx_at htx haz hz, q_c_lc τ (htx a haz).1, q_c_dg τ (htx a haz).1, dgi_1 hl, if_pos (by
    have := lc_iff.mpr (Or.inr hl)
    have := lc_le (T a)
    simp (disch := first | assumption | decide | omega) only [nI_lit, cT_lt, cF_lt, cT_le, cF_le, cT_eq, cF_eq, nF_le, mF_eq, mG_eq, mT_lt, eq_self, nI_clamp, nI_add, Nat.add_zero, nI_sub, s_i_ne, s_i_eq, s_i_2, s_l_1, s_l_ne, s_l_eq, s_p_ne, s_p_eq, s_p_2, s_q_1, s_q_ne, s_q_eq, u_ne, u_eq, v_ne, v_eq, w_ne, w_eq, jI_at_in, jL_at_in, false_or, or_false, true_or, or_true, true_and, and_true, false_and, and_false, not_true_eq_false, not_false_eq_true, ↓reduceIte, Option.bind_some, Option.map_some]), if_neg (by decide)]
  have key : p_cTok_readNumber (nI z) (nI a) τ = p_cTok_readNumber_65 (nI a) (lN (ncf T a (e - a))) (nI e) τ := by
    unfold p_cTok_readNumber p_cTok_readNumber_9
    have key := jx_loop_for (f := fun s : Int32 × Int32 × Int64 × Int32 × Int32 × jx_S => p_cTok_readNumber_9_s s.1 s.2.1 s.2.2.1 s.2.2.2.1 s.2.2.2.2.1 (s.2.2.2.2.2)) (fun i => (nI z, nI a, lN (ncf T a i), nI (a + i), nI (a + i), τ)) (e - a) (X := p_cTok_readNumber_65 (nI a) (lN (ncf T a (e - a))) (nI e) τ) (n := 100000000) (by
      intro i hi
      show p_cTok_readNumber_9_s (nI z) (nI a) (lN _) (nI (a + i)) (nI (a + i)) τ = _
      unfold p_cTok_readNumber_9_s
      have h1 := tx_at htx (show a + i < z by omega) hz
      have h2 := q_c_dg τ (htx (a + i) (by omega)).1
      have h3 := e3 (a + i) (by omega) (by omega)
      have h4 := ncf_le T a i
      rw [h1, h2, dgi_1 h3]
      simp (disch := first | assumption | decide | omega) only [nI_l, nI_lit, cT_lt, cF_lt, cT_le, cF_le, cT_eq, cF_eq, nF_le, mF_eq, mG_eq, mT_lt, eq_self, nI_clamp, nI_add, Nat.add_zero, nI_sub, s_i_ne, s_i_eq, s_i_2, s_l_1, s_l_ne, s_l_eq, s_p_ne, s_p_eq, s_p_2, s_q_1, s_q_ne, s_q_eq, u_ne, u_eq, v_ne, v_eq, w_ne, w_eq, jI_at_in, jL_at_in, false_or, or_false, true_or, or_true, true_and, and_true, false_and, and_false, not_true_eq_false, not_false_eq_true, ↓reduceIte, Option.bind_some, Option.map_some]
      rw [show (10 : Int64) = lN 10 from rfl, show (48 : Int64) = lN 48 from rfl, lN_mul, lN_add, lN_sub (by omega), show (4294967296 : Int64) = lN 4294967296 from rfl]
      rw [ncf]
      by_cases hb : 4294967296 < ncf T a i * 10 + T (a + i) - 48
      · rw [if_pos ((pk_lLT (by omega) (by omega)).mpr hb), Nat.min_eq_right (by omega)]
        rfl
      · rw [if_neg (fun q => hb ((pk_lLT (by omega) (by omega)).mp q)), Nat.min_eq_left (by omega)]
        rfl) (by
      show p_cTok_readNumber_9_s (nI z) (nI a) (lN _) (nI (a + (e - a))) (nI (a + (e - a))) τ = _
      unfold p_cTok_readNumber_9_s
      rw [show a + (e - a) = e by omega]
      by_cases hez : e < z
      · have h1 := tx_at htx hez hz
        have h2 := q_c_dg τ (htx e (by omega)).1
        rw [h1, h2, dgi_0 (e4 hez)]
        simp (disch := first | assumption | decide | omega) only [nI_lit, cT_lt, cF_lt, cT_le, cF_le, cT_eq, cF_eq, nF_le, mF_eq, mG_eq, mT_lt, eq_self, nI_clamp, nI_add, Nat.add_zero, nI_sub, s_i_ne, s_i_eq, s_i_2, s_l_1, s_l_ne, s_l_eq, s_p_ne, s_p_eq, s_p_2, s_q_1, s_q_ne, s_q_eq, u_ne, u_eq, v_ne, v_eq, w_ne, w_eq, jI_at_in, jL_at_in, false_or, or_false, true_or, or_true, true_and, and_true, false_and, and_false, not_true_eq_false, not_false_eq_true, ↓reduceIte, Option.bind_some, Option.map_some]
      · simp (disch := first | assumption | decide | omega) only [nI_lit, cT_lt, cF_lt, cT_le, cF_le, cT_eq, cF_eq, nF_le, mF_eq, mG_eq, mT_lt, eq_self, nI_clamp, nI_add, Nat.add_zero, nI_sub, s_i_ne, s_i_eq, s_i_2, s_l_1, s_l_ne, s_l_eq, s_p_ne, s_p_eq, s_p_2, s_q_1, s_q_ne, s_q_eq, u_ne, u_eq, v_ne, v_eq, w_ne, w_eq, jI_at_in, jL_at_in, false_or, or_false, true_or, or_true, true_and, and_true, false_and, and_false, not_true_eq_false, not_false_eq_true, ↓reduceIte, Option.bind_some, Option.map_some]) (by omega)
    exact key
  rw [key]
  unfold p_cTok_readNumber_65
  have h4 := ncf_le T a (e - a)
  simp only [lg_le, show (2147483647 : Int64) = lN 2147483647 from rfl]
  by_cases hc : ncf T a (e - a) ≤ 2147483647
  · rw [if_pos hc, if_pos ((pk_lLE (by omega) (by omega)).mpr hc)]
    rfl
  · rw [if_neg hc, if_neg (fun q => hc ((pk_lLE (by omega) (by omega)).mp q)), q_c_tell τ _ _ ht]
    rfl
theorem q_c_sign (τ : jx_S) (T : Nat → Nat) (z a : Nat) (htx : tx (τ.1 11) T z) (hz : z ≤ 4000) (haz : a < z) (hl : lc (T a) = 0) (ht : τ.1 1 0 = 0) :
    p_cTok_readToken (nI z) (nI a) τ = if T a = 45 ∧ a + 1 < z ∧ T (a + 1) = 62 then some (nI (a + 2), tadd τ 21 (nI a) 0) else if sgk (T a) = 0 then some (nI a, ctell τ 1 (nI a)) else some (nI (a + 1), tadd τ (nI (sgk (T a))) (nI a) 0) := by
  unfold p_cTok_readToken
  have ho := (htx a haz).1
  rw [tx_at htx haz hz, q_c_lc τ ho, hl, if_neg (by decide)]
  have h45 : p_cTok_readSign_45 (nI a) (nI (T a)) τ = if sgk (T a) = 0 then some (nI a, ctell τ 1 (nI a)) else some (nI (a + 1), tadd τ (nI (sgk (T a))) (nI a) 0) := by
    unfold p_cTok_readSign_45
    rw [q_c_sg τ ho]
    have hs := (q_sg0 (T a) ho).2
    by_cases hc : sgk (T a) = 0
    · rw [if_pos hc, hc, if_neg (by decide), q_c_tell τ _ _ ht]
      rfl
    · rw [if_neg hc, if_pos (by simp (disch := first | assumption | decide | omega) only [nI_lit, cT_lt, cF_lt, cT_le, cF_le, cT_eq, cF_eq, nF_le, mF_eq, mG_eq, mT_lt, eq_self, nI_clamp, nI_add, Nat.add_zero, nI_sub, s_i_ne, s_i_eq, s_i_2, s_l_1, s_l_ne, s_l_eq, s_p_ne, s_p_eq, s_p_2, s_q_1, s_q_ne, s_q_eq, u_ne, u_eq, v_ne, v_eq, w_ne, w_eq, jI_at_in, jL_at_in, false_or, or_false, true_or, or_true, true_and, and_true, false_and, and_false, not_true_eq_false, not_false_eq_true, ↓reduceIte, Option.bind_some, Option.map_some])]
      simp (disch := first | assumption | decide | omega) only [nI_lit, cT_lt, cF_lt, cT_le, cF_le, cT_eq, cF_eq, nF_le, mF_eq, mG_eq, mT_lt, eq_self, nI_clamp, nI_add, Nat.add_zero, nI_sub, s_i_ne, s_i_eq, s_i_2, s_l_1, s_l_ne, s_l_eq, s_p_ne, s_p_eq, s_p_2, s_q_1, s_q_ne, s_q_eq, u_ne, u_eq, v_ne, v_eq, w_ne, w_eq, jI_at_in, jL_at_in, false_or, or_false, true_or, or_true, true_and, and_true, false_and, and_false, not_true_eq_false, not_false_eq_true, ↓reduceIte, Option.bind_some, Option.map_some]
      rfl
  unfold p_cTok_readSign
  rw [tx_at htx haz hz]
  by_cases h1 : T a = 45
  · by_cases h2 : a + 1 < z
    · have h3 := tx_at htx h2 hz
      have h3a := (htx (a + 1) h2).1
      by_cases h4 : T (a + 1) = 62
      · refine Eq.trans ?_ (if_pos ⟨h1, h2, h4⟩).symm
        simp (disch := first | assumption | decide | omega) only [h3, h4, h1, nI_lit, cT_lt, cF_lt, cT_le, cF_le, cT_eq, cF_eq, nF_le, mF_eq, mG_eq, mT_lt, eq_self, nI_clamp, nI_add, Nat.add_zero, nI_sub, s_i_ne, s_i_eq, s_i_2, s_l_1, s_l_ne, s_l_eq, s_p_ne, s_p_eq, s_p_2, s_q_1, s_q_ne, s_q_eq, u_ne, u_eq, v_ne, v_eq, w_ne, w_eq, jI_at_in, jL_at_in, false_or, or_false, true_or, or_true, true_and, and_true, false_and, and_false, not_true_eq_false, not_false_eq_true, ↓reduceIte, Option.bind_some, Option.map_some]
        rfl
      · refine Eq.trans ?_ (if_neg (fun q => h4 q.2.2)).symm
        rw [← h45]
        simp (disch := first | assumption | decide | omega) only [h3, h1, nI_lit, cT_lt, cF_lt, cT_le, cF_le, cT_eq, cF_eq, nF_le, mF_eq, mG_eq, mT_lt, eq_self, nI_clamp, nI_add, Nat.add_zero, nI_sub, s_i_ne, s_i_eq, s_i_2, s_l_1, s_l_ne, s_l_eq, s_p_ne, s_p_eq, s_p_2, s_q_1, s_q_ne, s_q_eq, u_ne, u_eq, v_ne, v_eq, w_ne, w_eq, jI_at_in, jL_at_in, false_or, or_false, true_or, or_true, true_and, and_true, false_and, and_false, not_true_eq_false, not_false_eq_true, ↓reduceIte, Option.bind_some, Option.map_some]
        cases p_cTok_readSign_45 (nI a) (nI 45) τ <;> rfl
    · refine Eq.trans ?_ (if_neg (fun q => h2 q.2.1)).symm
      rw [← h45]
      simp (disch := first | assumption | decide | omega) only [h1, nI_lit, cT_lt, cF_lt, cT_le, cF_le, cT_eq, cF_eq, nF_le, mF_eq, mG_eq, mT_lt, eq_self, nI_clamp, nI_add, Nat.add_zero, nI_sub, s_i_ne, s_i_eq, s_i_2, s_l_1, s_l_ne, s_l_eq, s_p_ne, s_p_eq, s_p_2, s_q_1, s_q_ne, s_q_eq, u_ne, u_eq, v_ne, v_eq, w_ne, w_eq, jI_at_in, jL_at_in, false_or, or_false, true_or, or_true, true_and, and_true, false_and, and_false, not_true_eq_false, not_false_eq_true, ↓reduceIte, Option.bind_some, Option.map_some]
      cases p_cTok_readSign_45 (nI a) (nI 45) τ <;> rfl
  · refine Eq.trans ?_ (if_neg (fun q => h1 q.1)).symm
    rw [← h45]
    simp (disch := first | assumption | decide | omega) only [nI_lit, cT_lt, cF_lt, cT_le, cF_le, cT_eq, cF_eq, nF_le, mF_eq, mG_eq, mT_lt, eq_self, nI_clamp, nI_add, Nat.add_zero, nI_sub, s_i_ne, s_i_eq, s_i_2, s_l_1, s_l_ne, s_l_eq, s_p_ne, s_p_eq, s_p_2, s_q_1, s_q_ne, s_q_eq, u_ne, u_eq, v_ne, v_eq, w_ne, w_eq, jI_at_in, jL_at_in, false_or, or_false, true_or, or_true, true_and, and_true, false_and, and_false, not_true_eq_false, not_false_eq_true, ↓reduceIte, Option.bind_some, Option.map_some]
    cases p_cTok_readSign_45 (nI a) (nI (T a)) τ <;> rfl
