/-! TOKENS, 3: one token of the reference. -/
theorem ifc {α : Type} {a b : Prop} [Decidable a] [Decidable b] (h : a ↔ b) {x y : α} : (if a then x else y) = if b then x else y := by
  by_cases hb : b
  · rw [if_pos hb, if_pos (h.mpr hb)]
  · rw [if_neg hb, if_neg (fun q => hb (h.mp q))]
theorem q_r_octet (ρ : jx_S) (T : Nat → Nat) (z a : Nat) (htx : tx (ρ.1 107) T z) (hz : z ≤ 4000) (hzz : ρ.1 106 1 = nI z) (ha : a < z) : p_r_octet (nI a) ρ = some (nI (T a), ρ) := by
  unfold p_r_octet
  simp (disch := first | assumption | decide | omega) only [hzz, (htx a ha).2, nI_lit, cT_lt, cF_lt, cT_le, cF_le, cT_eq, cF_eq, nF_le, mF_eq, mG_eq, mT_lt, eq_self, nI_clamp, nI_add, Nat.add_zero, nI_sub, s_i_ne, s_i_eq, s_i_2, s_l_1, s_l_ne, s_l_eq, s_p_ne, s_p_eq, s_p_2, s_q_1, s_q_ne, s_q_eq, u_ne, u_eq, v_ne, v_eq, w_ne, w_eq, jI_at_in, jL_at_in, false_or, or_false, true_or, or_true, true_and, and_true, false_and, and_false, not_true_eq_false, not_false_eq_true, ↓reduceIte, Option.bind_some, Option.map_some]
theorem q_r_octet_no (ρ : jx_S) (z a : Nat) (hz : z ≤ 4000) (hzz : ρ.1 106 1 = nI z) (ha : z ≤ a) (ha2 : a < 5000) : p_r_octet (nI a) ρ = some (-1, ρ) := by
  unfold p_r_octet
  simp (disch := first | assumption | decide | omega) only [hzz, nI_lit, cT_lt, cF_lt, cT_le, cF_le, cT_eq, cF_eq, nF_le, mF_eq, mG_eq, mT_lt, eq_self, nI_clamp, nI_add, Nat.add_zero, nI_sub, s_i_ne, s_i_eq, s_i_2, s_l_1, s_l_ne, s_l_eq, s_p_ne, s_p_eq, s_p_2, s_q_1, s_q_ne, s_q_eq, u_ne, u_eq, v_ne, v_eq, w_ne, w_eq, jI_at_in, jL_at_in, false_or, or_false, true_or, or_true, true_and, and_true, false_and, and_false, not_true_eq_false, not_false_eq_true, ↓reduceIte, Option.bind_some, Option.map_some]
theorem spl1 : ∀ k, k < 16 → 3 ≤ k → ∀ j, j < 5 → ((((lN (ww k)) >>> ((((8 : Int32) * nI j)).toInt64 &&& 63)) &&& (255 : Int64))).toInt32 = nI (wb k j) := by decide +kernel
theorem spl2 : ∀ k, k < 16 → 3 ≤ k → ∀ n, n < 6 → 2 ≤ n → (decide ((lN (ww k)) >>> ((((8 : Int32) * nI n)).toInt64 &&& 63) = 0) && !decide (((lN (ww k)) >>> ((((8 : Int32) * (nI n - (1 : Int32)))).toInt64 &&& 63)) &&& (255 : Int64) = 0)) = decide (n = wl k) := by decide +kernel
theorem q_r_spells_38 (ρ : jx_S) (T : Nat → Nat) (z a n k : Nat) (htx : tx (ρ.1 107) T z) (hz : z ≤ 4000) (hzz : ρ.1 106 1 = nI z) (hw : a + n ≤ z) (h5 : n ≤ 5) (hk : k < 16) (h3 : 3 ≤ k) :
    ∀ m j N, j + m = n → m + 1 < N → jx_loop N (fun s : Int32 × Int32 × Int64 × Int32 × Int32 × jx_S => p_r_spells_38_s s.1 s.2.1 s.2.2.1 s.2.2.2.1 s.2.2.2.2.1 (s.2.2.2.2.2)) (nI a, nI n, lN (ww k), 1, nI j, ρ) = some (if ∀ i, i < n → j ≤ i → T (a + i) = wb k i then 1 else 0, ρ) := by
  intro m
  induction m with
  | zero =>
    intro j N h1 h2
    obtain ⟨N, rfl⟩ : ∃ M, N = M + 1 := ⟨N - 1, by omega⟩
    refine jx_loop_out ?_ N
    show p_r_spells_38_s (nI a) (nI n) (lN (ww k)) 1 (nI j) ρ = _
    unfold p_r_spells_38_s
    rw [if_pos (nI_le (by omega) (by omega)), if_pos (Or.inr rfl), if_pos (fun i h7 h6 => by omega)]
  | succ m ih =>
    intro j N h1 h2
    obtain ⟨N, rfl⟩ : ∃ M, N = M + 1 := ⟨N - 1, by omega⟩
    have ho := q_r_octet ρ T z (a + j) htx hz hzz (by omega)
    have hlt := (htx (a + j) (by omega)).1
    have hwb : wb k j < 256 := Nat.mod_lt _ (by omega)
    by_cases hc : T (a + j) = wb k j
    · rw [jx_loop_inl (s1 := (nI a, nI n, lN (ww k), 1, nI (j + 1), ρ)) (by
        show p_r_spells_38_s (nI a) (nI n) (lN (ww k)) 1 (nI j) ρ = _
        unfold p_r_spells_38_s
        rw [if_neg (nI_ge (by omega) (by omega)), if_neg (by decide), nI_add, ho, Option.bind_some]
        dsimp only
        rw [spl1 k hk h3 j (by omega), hc, if_neg (by simp), nI_succ]
        rfl)]
      rw [ih (j + 1) N (by omega) (by omega)]
      congr 2
      apply ifc
      refine ⟨fun h i h7 h6 => ?_, fun h i h7 h6 => h i h7 (by omega)⟩
      by_cases hi : i = j
      · rw [hi]; exact hc
      · exact h i h7 (by omega)
    · rw [jx_loop_inl (s1 := (nI a, nI n, lN (ww k), 0, nI (j + 1), ρ)) (by
        show p_r_spells_38_s (nI a) (nI n) (lN (ww k)) 1 (nI j) ρ = _
        unfold p_r_spells_38_s
        rw [if_neg (nI_ge (by omega) (by omega)), if_neg (by decide), nI_add, ho, Option.bind_some]
        dsimp only
        rw [spl1 k hk h3 j (by omega), if_pos (fun q => hc ((nI_eq (by omega) (by omega)).mp q)), nI_succ]
        rfl)]
      obtain ⟨N, rfl⟩ : ∃ M, N = M + 1 := ⟨N - 1, by omega⟩
      refine (jx_loop_out (X := some (0, ρ)) ?_ N).trans ?_
      · show p_r_spells_38_s (nI a) (nI n) (lN (ww k)) 0 (nI (j + 1)) ρ = _
        unfold p_r_spells_38_s
        rw [if_pos (show (0 : Int32) = 0 ∨ (0 : Int32) = 1 from Or.inl rfl), if_pos (show (0 : Int32) = 0 from rfl)]
        split <;> rfl
      · rw [if_neg (fun h => hc (h j (by omega) (by omega)))]
theorem q_r_spells (ρ : jx_S) (T : Nat → Nat) (z a n k : Nat) (htx : tx (ρ.1 107) T z) (hz : z ≤ 4000) (hzz : ρ.1 106 1 = nI z) (hw : a + n ≤ z) (h2 : 2 ≤ n) (h5 : n ≤ 5) (hg : ∀ j, j < n → lc (T (a + j)) ≠ 0) (hk : k < 16) (h3 : 3 ≤ k) :
    p_r_spells (nI a) (nI n) (lN (ww k)) ρ = some (if n = wl k ∧ ∀ j, j < n → T (a + j) = wb k j then 1 else 0, ρ) := by
  unfold p_r_spells
  simp only [lg_eq]
  have h6 := spl2 k hk h3 n (by omega) h2
  have h0 : p_r_spells_33 (nI a) (nI n) (lN (ww k)) 0 ρ = some (0, ρ) := by
    unfold p_r_spells_33 p_r_spells_38
    refine jx_loop_out (X := some (0, ρ)) ?_ 99999999
    show p_r_spells_38_s (nI a) (nI n) (lN (ww k)) 0 0 ρ = _
    unfold p_r_spells_38_s
    rw [if_pos (show (0 : Int32) = 0 ∨ (0 : Int32) = 1 from Or.inl rfl), if_pos (show (0 : Int32) = 0 from rfl)]
    split <;> rfl
  have h1 : p_r_spells_33 (nI a) (nI n) (lN (ww k)) 1 ρ = some (if ∀ i, i < n → 0 ≤ i → T (a + i) = wb k i then 1 else 0, ρ) := by
    unfold p_r_spells_33 p_r_spells_38
    exact q_r_spells_38 ρ T z a n k htx hz hzz hw h5 hk h3 n 0 100000000 (by omega) (by omega)
  unfold p_r_spells_32
  rw [h0, h1]
  by_cases ha : (lN (ww k)) >>> ((((8 : Int32) * nI n)).toInt64 &&& 63) = 0
  · rw [if_neg (by simp [ha])]
    by_cases hb : ((lN (ww k)) >>> ((((8 : Int32) * (nI n - (1 : Int32)))).toInt64 &&& 63)) &&& (255 : Int64) = 0
    · rw [if_pos hb]
      rw [ha, hb] at h6
      have : ¬ n = wl k := by intro q; rw [decide_eq_true q] at h6; exact absurd h6 (by decide)
      rw [if_neg (fun q => this q.1)]
    · rw [if_neg hb]
      have : n = wl k := by
        have h7 : decide (n = wl k) = true := by rw [← h6, decide_eq_true ha, decide_eq_false hb]; rfl
        exact of_decide_eq_true h7
      congr 2
      exact ifc ⟨fun q => ⟨this, fun j hj => q j hj (by omega)⟩, fun q i hi _ => q.2 i hi⟩
  · rw [if_pos ha]
    have : ¬ n = wl k := by
      intro q
      rw [decide_eq_true q, decide_eq_false ha] at h6
      exact absurd h6 (by simp)
    rw [if_neg (fun q => this q.1)]
theorem q_r_wordAt (ρ : jx_S) (T : Nat → Nat) (z a n : Nat) (htx : tx (ρ.1 107) T z) (hz : z ≤ 4000) (hzz : ρ.1 106 1 = nI z) (hw : a + n ≤ z) (h1 : 1 ≤ n) (hg : ∀ j, j < n → lc (T (a + j)) ≠ 0) :
    p_r_wordAt (nI a) (nI n) ρ = some (nI (wkF 13 (cdf (fun j => lc (T (a + j))) n)), ρ) := by
  unfold p_r_wordAt
  rcases Nat.lt_or_ge n 2 with h2 | h2
  · have h3 : n = 1 := by omega
    subst h3
    have h4 := cdf_lt (fun j => lc (T (a + j))) 1 (fun j _ => lc_le _)
    rw [wkF_no (Or.inl (by omega)) 13 (by omega)]
    rfl
  rcases Nat.lt_or_ge 5 n with h5 | h5
  · have h4 := cdf_ge (fun j => lc (T (a + j))) (n - 1) (hg 0 (by omega))
    rw [show n - 1 + 1 = n by omega] at h4
    have h6 : 37 ^ 5 ≤ 37 ^ (n - 1) := Nat.pow_le_pow_right (by omega) (by omega)
    rw [wkF_no (Or.inr (by omega)) 13 (by omega), if_neg (show ¬ nI n < 2 from (nI_nlt (by omega) (by omega) : ¬ nI n < nI 2)), if_neg (show ¬ nI n ≤ 5 from (nI_ge (by omega) (by omega) : ¬ nI n ≤ nI 5))]
    rfl
  rw [if_neg (show ¬ nI n < 2 from (nI_nlt (by omega) (by omega) : ¬ nI n < nI 2)), if_pos (show nI n ≤ 5 from (nI_le (by omega) (by omega) : nI n ≤ nI 5))]
  rw [show (7630441 : Int64) = lN (ww 3) from rfl, q_r_spells ρ T z a n 3 htx hz hzz hw h2 h5 hg (by omega) (by omega), Option.bind_some]
  have e3 := wd_is (fun j => T (a + j)) 3 n (by omega) (by omega) hg
  rw [wkF, show 15 - 12 = 3 from rfl]
  by_cases d3 : wd 3 = cdf (fun j => lc (T (a + j))) n
  · rw [if_pos d3, if_pos (e3.mp d3)]
    rfl
  rw [if_neg d3, if_neg (fun q => d3 (e3.mpr q))]
  rw [if_pos (show (0 : Int32) = 0 from rfl)]
  rw [show (1953720684 : Int64) = lN (ww 4) from rfl, q_r_spells ρ T z a n 4 htx hz hzz hw h2 h5 hg (by omega) (by omega), Option.bind_some]
  have e4 := wd_is (fun j => T (a + j)) 4 n (by omega) (by omega) hg
  rw [wkF, show 15 - 11 = 4 from rfl]
  by_cases d4 : wd 4 = cdf (fun j => lc (T (a + j))) n
  · rw [if_pos d4, if_pos (e4.mp d4)]
    rfl
  rw [if_neg d4, if_neg (fun q => d4 (e4.mpr q))]
  rw [if_pos (show (0 : Int32) = 0 from rfl)]
  rw [show (7628140 : Int64) = lN (ww 5) from rfl, q_r_spells ρ T z a n 5 htx hz hzz hw h2 h5 hg (by omega) (by omega), Option.bind_some]
  have e5 := wd_is (fun j => T (a + j)) 5 n (by omega) (by omega) hg
  rw [wkF, show 15 - 10 = 5 from rfl]
  by_cases d5 : wd 5 = cdf (fun j => lc (T (a + j))) n
  · rw [if_pos d5, if_pos (e5.mp d5)]
    rfl
  rw [if_neg d5, if_neg (fun q => d5 (e5.mpr q))]
  rw [if_pos (show (0 : Int32) = 0 from rfl)]
  rw [show (28265 : Int64) = lN (ww 6) from rfl, q_r_spells ρ T z a n 6 htx hz hzz hw h2 h5 hg (by omega) (by omega), Option.bind_some]
  have e6 := wd_is (fun j => T (a + j)) 6 n (by omega) (by omega) hg
  rw [wkF, show 15 - 9 = 6 from rfl]
  by_cases d6 : wd 6 = cdf (fun j => lc (T (a + j))) n
  · rw [if_pos d6, if_pos (e6.mp d6)]
    rfl
  rw [if_neg d6, if_neg (fun q => d6 (e6.mpr q))]
  rw [if_pos (show (0 : Int32) = 0 from rfl)]
  rw [show (26217 : Int64) = lN (ww 7) from rfl, q_r_spells ρ T z a n 7 htx hz hzz hw h2 h5 hg (by omega) (by omega), Option.bind_some]
  have e7 := wd_is (fun j => T (a + j)) 7 n (by omega) (by omega) hg
  rw [wkF, show 15 - 8 = 7 from rfl]
  by_cases d7 : wd 7 = cdf (fun j => lc (T (a + j))) n
  · rw [if_pos d7, if_pos (e7.mp d7)]
    rfl
  rw [if_neg d7, if_neg (fun q => d7 (e7.mpr q))]
  rw [if_pos (show (0 : Int32) = 0 from rfl)]
  rw [show (1852139636 : Int64) = lN (ww 8) from rfl, q_r_spells ρ T z a n 8 htx hz hzz hw h2 h5 hg (by omega) (by omega), Option.bind_some]
  have e8 := wd_is (fun j => T (a + j)) 8 n (by omega) (by omega) hg
  rw [wkF, show 15 - 7 = 8 from rfl]
  by_cases d8 : wd 8 = cdf (fun j => lc (T (a + j))) n
  · rw [if_pos d8, if_pos (e8.mp d8)]
    rfl
  rw [if_neg d8, if_neg (fun q => d8 (e8.mpr q))]
  rw [if_pos (show (0 : Int32) = 0 from rfl)]
  rw [show (1702063205 : Int64) = lN (ww 9) from rfl, q_r_spells ρ T z a n 9 htx hz hzz hw h2 h5 hg (by omega) (by omega), Option.bind_some]
  have e9 := wd_is (fun j => T (a + j)) 9 n (by omega) (by omega) hg
  rw [wkF, show 15 - 6 = 9 from rfl]
  by_cases d9 : wd 9 = cdf (fun j => lc (T (a + j))) n
  · rw [if_pos d9, if_pos (e9.mp d9)]
    rfl
  rw [if_neg d9, if_neg (fun q => d9 (e9.mpr q))]
  rw [if_pos (show (0 : Int32) = 0 from rfl)]
  rw [show (1702060387 : Int64) = lN (ww 10) from rfl, q_r_spells ρ T z a n 10 htx hz hzz hw h2 h5 hg (by omega) (by omega), Option.bind_some]
  have e10 := wd_is (fun j => T (a + j)) 10 n (by omega) (by omega) hg
  rw [wkF, show 15 - 5 = 10 from rfl]
  by_cases d10 : wd 10 = cdf (fun j => lc (T (a + j))) n
  · rw [if_pos d10, if_pos (e10.mp d10)]
    rfl
  rw [if_neg d10, if_neg (fun q => d10 (e10.mpr q))]
  rw [if_pos (show (0 : Int32) = 0 from rfl)]
  rw [show (26223 : Int64) = lN (ww 11) from rfl, q_r_spells ρ T z a n 11 htx hz hzz hw h2 h5 hg (by omega) (by omega), Option.bind_some]
  have e11 := wd_is (fun j => T (a + j)) 11 n (by omega) (by omega) hg
  rw [wkF, show 15 - 4 = 11 from rfl]
  by_cases d11 : wd 11 = cdf (fun j => lc (T (a + j))) n
  · rw [if_pos d11, if_pos (e11.mp d11)]
    rfl
  rw [if_neg d11, if_neg (fun q => d11 (e11.mpr q))]
  rw [if_pos (show (0 : Int32) = 0 from rfl)]
  rw [show (521644567909 : Int64) = lN (ww 12) from rfl, q_r_spells ρ T z a n 12 htx hz hzz hw h2 h5 hg (by omega) (by omega), Option.bind_some]
  have e12 := wd_is (fun j => T (a + j)) 12 n (by omega) (by omega) hg
  rw [wkF, show 15 - 3 = 12 from rfl]
  by_cases d12 : wd 12 = cdf (fun j => lc (T (a + j))) n
  · rw [if_pos d12, if_pos (e12.mp d12)]
    rfl
  rw [if_neg d12, if_neg (fun q => d12 (e12.mpr q))]
  rw [if_pos (show (0 : Int32) = 0 from rfl)]
  rw [show (7104878 : Int64) = lN (ww 13) from rfl, q_r_spells ρ T z a n 13 htx hz hzz hw h2 h5 hg (by omega) (by omega), Option.bind_some]
  have e13 := wd_is (fun j => T (a + j)) 13 n (by omega) (by omega) hg
  rw [wkF, show 15 - 2 = 13 from rfl]
  by_cases d13 : wd 13 = cdf (fun j => lc (T (a + j))) n
  · rw [if_pos d13, if_pos (e13.mp d13)]
    rfl
  rw [if_neg d13, if_neg (fun q => d13 (e13.mpr q))]
  rw [if_pos (show (0 : Int32) = 0 from rfl)]
  rw [show (1936617315 : Int64) = lN (ww 14) from rfl, q_r_spells ρ T z a n 14 htx hz hzz hw h2 h5 hg (by omega) (by omega), Option.bind_some]
  have e14 := wd_is (fun j => T (a + j)) 14 n (by omega) (by omega) hg
  rw [wkF, show 15 - 1 = 14 from rfl]
  by_cases d14 : wd 14 = cdf (fun j => lc (T (a + j))) n
  · rw [if_pos d14, if_pos (e14.mp d14)]
    rfl
  rw [if_neg d14, if_neg (fun q => d14 (e14.mpr q))]
  rw [if_pos (show (0 : Int32) = 0 from rfl)]
  rw [show (491496043109 : Int64) = lN (ww 15) from rfl, q_r_spells ρ T z a n 15 htx hz hzz hw h2 h5 hg (by omega) (by omega), Option.bind_some]
  have e15 := wd_is (fun j => T (a + j)) 15 n (by omega) (by omega) hg
  rw [wkF, show 15 - 0 = 15 from rfl]
  by_cases d15 : wd 15 = cdf (fun j => lc (T (a + j))) n
  · rw [if_pos d15, if_pos (e15.mp d15)]
    rfl
  rw [if_neg d15, if_neg (fun q => d15 (e15.mpr q))]
  rw [if_pos (show (0 : Int32) = 0 from rfl)]
  rfl
theorem q_r_signAt (ρ : jx_S) (T : Nat → Nat) (z a : Nat) (htx : tx (ρ.1 107) T z) (hz : z ≤ 4000) (hzz : ρ.1 106 1 = nI z) (ha : a < z) :
    p_r_signAt (nI a) ρ = some (if T a = 45 ∧ a + 1 < z ∧ T (a + 1) = 62 then 21 else if sgk (T a) = 0 then -1 else nI (sgk (T a)), ρ) := by
  unfold p_r_signAt
  have hlt := (htx a ha).1
  rw [q_r_octet ρ T z a htx hz hzz ha, Option.bind_some]
  dsimp only
  by_cases h45 : T a = 45
  · by_cases h1 : a + 1 < z
    · have hlt2 := (htx (a + 1) h1).1
      have ho := q_r_octet ρ T z (a + 1) htx hz hzz h1
      by_cases h2 : T (a + 1) = 62
      · rw [show (if T a = 45 ∧ a + 1 < z ∧ T (a + 1) = 62 then (21 : Int32) else if sgk (T a) = 0 then -1 else nI (sgk (T a))) = 21 from if_pos ⟨h45, h1, h2⟩, h45]
        simp (disch := first | assumption | decide | omega) only [ho, h2, nI_lit, cT_lt, cF_lt, cT_le, cF_le, cT_eq, cF_eq, nF_le, mF_eq, mG_eq, mT_lt, eq_self, nI_clamp, nI_add, Nat.add_zero, nI_sub, s_i_ne, s_i_eq, s_i_2, s_l_1, s_l_ne, s_l_eq, s_p_ne, s_p_eq, s_p_2, s_q_1, s_q_ne, s_q_eq, u_ne, u_eq, v_ne, v_eq, w_ne, w_eq, jI_at_in, jL_at_in, false_or, or_false, true_or, or_true, true_and, and_true, false_and, and_false, not_true_eq_false, not_false_eq_true, ↓reduceIte, Option.bind_some, Option.map_some]
      · rw [show (if T a = 45 ∧ a + 1 < z ∧ T (a + 1) = 62 then (21 : Int32) else if sgk (T a) = 0 then -1 else nI (sgk (T a))) = if sgk (T a) = 0 then -1 else nI (sgk (T a)) from if_neg (fun q => h2 q.2.2), h45]
        simp (disch := first | assumption | decide | omega) only [ho, nI_lit, cT_lt, cF_lt, cT_le, cF_le, cT_eq, cF_eq, nF_le, mF_eq, mG_eq, mT_lt, eq_self, nI_clamp, nI_add, Nat.add_zero, nI_sub, s_i_ne, s_i_eq, s_i_2, s_l_1, s_l_ne, s_l_eq, s_p_ne, s_p_eq, s_p_2, s_q_1, s_q_ne, s_q_eq, u_ne, u_eq, v_ne, v_eq, w_ne, w_eq, jI_at_in, jL_at_in, false_or, or_false, true_or, or_true, true_and, and_true, false_and, and_false, not_true_eq_false, not_false_eq_true, ↓reduceIte, Option.bind_some, Option.map_some]
        rfl
    · have ho := q_r_octet_no ρ z (a + 1) hz hzz (by omega) (by omega)
      rw [show (if T a = 45 ∧ a + 1 < z ∧ T (a + 1) = 62 then (21 : Int32) else if sgk (T a) = 0 then -1 else nI (sgk (T a))) = if sgk (T a) = 0 then -1 else nI (sgk (T a)) from if_neg (fun q => h1 q.2.1), h45]
      simp (disch := first | assumption | decide | omega) only [ho, nI_lit, cT_lt, cF_lt, cT_le, cF_le, cT_eq, cF_eq, nF_le, mF_eq, mG_eq, mT_lt, eq_self, nI_clamp, nI_add, Nat.add_zero, nI_sub, s_i_ne, s_i_eq, s_i_2, s_l_1, s_l_ne, s_l_eq, s_p_ne, s_p_eq, s_p_2, s_q_1, s_q_ne, s_q_eq, u_ne, u_eq, v_ne, v_eq, w_ne, w_eq, jI_at_in, jL_at_in, false_or, or_false, true_or, or_true, true_and, and_true, false_and, and_false, not_true_eq_false, not_false_eq_true, ↓reduceIte, Option.bind_some, Option.map_some]
      rfl
  · rw [show (if T a = 45 ∧ a + 1 < z ∧ T (a + 1) = 62 then (21 : Int32) else if sgk (T a) = 0 then -1 else nI (sgk (T a))) = if sgk (T a) = 0 then -1 else nI (sgk (T a)) from if_neg (fun q => h45 q.1)]
    by_cases h40 : T a = 40
    · rw [h40]
      simp (disch := first | assumption | decide | omega) only [nI_lit, cT_lt, cF_lt, cT_le, cF_le, cT_eq, cF_eq, nF_le, mF_eq, mG_eq, mT_lt, eq_self, nI_clamp, nI_add, Nat.add_zero, nI_sub, s_i_ne, s_i_eq, s_i_2, s_l_1, s_l_ne, s_l_eq, s_p_ne, s_p_eq, s_p_2, s_q_1, s_q_ne, s_q_eq, u_ne, u_eq, v_ne, v_eq, w_ne, w_eq, jI_at_in, jL_at_in, false_or, or_false, true_or, or_true, true_and, and_true, false_and, and_false, not_true_eq_false, not_false_eq_true, ↓reduceIte, Option.bind_some, Option.map_some]
      rfl
    by_cases h41 : T a = 41
    · rw [h41]
      simp (disch := first | assumption | decide | omega) only [nI_lit, cT_lt, cF_lt, cT_le, cF_le, cT_eq, cF_eq, nF_le, mF_eq, mG_eq, mT_lt, eq_self, nI_clamp, nI_add, Nat.add_zero, nI_sub, s_i_ne, s_i_eq, s_i_2, s_l_1, s_l_ne, s_l_eq, s_p_ne, s_p_eq, s_p_2, s_q_1, s_q_ne, s_q_eq, u_ne, u_eq, v_ne, v_eq, w_ne, w_eq, jI_at_in, jL_at_in, false_or, or_false, true_or, or_true, true_and, and_true, false_and, and_false, not_true_eq_false, not_false_eq_true, ↓reduceIte, Option.bind_some, Option.map_some]
      rfl
    by_cases h42 : T a = 42
    · rw [h42]
      simp (disch := first | assumption | decide | omega) only [nI_lit, cT_lt, cF_lt, cT_le, cF_le, cT_eq, cF_eq, nF_le, mF_eq, mG_eq, mT_lt, eq_self, nI_clamp, nI_add, Nat.add_zero, nI_sub, s_i_ne, s_i_eq, s_i_2, s_l_1, s_l_ne, s_l_eq, s_p_ne, s_p_eq, s_p_2, s_q_1, s_q_ne, s_q_eq, u_ne, u_eq, v_ne, v_eq, w_ne, w_eq, jI_at_in, jL_at_in, false_or, or_false, true_or, or_true, true_and, and_true, false_and, and_false, not_true_eq_false, not_false_eq_true, ↓reduceIte, Option.bind_some, Option.map_some]
      rfl
    by_cases h43 : T a = 43
    · rw [h43]
      simp (disch := first | assumption | decide | omega) only [nI_lit, cT_lt, cF_lt, cT_le, cF_le, cT_eq, cF_eq, nF_le, mF_eq, mG_eq, mT_lt, eq_self, nI_clamp, nI_add, Nat.add_zero, nI_sub, s_i_ne, s_i_eq, s_i_2, s_l_1, s_l_ne, s_l_eq, s_p_ne, s_p_eq, s_p_2, s_q_1, s_q_ne, s_q_eq, u_ne, u_eq, v_ne, v_eq, w_ne, w_eq, jI_at_in, jL_at_in, false_or, or_false, true_or, or_true, true_and, and_true, false_and, and_false, not_true_eq_false, not_false_eq_true, ↓reduceIte, Option.bind_some, Option.map_some]
      rfl
    by_cases h47 : T a = 47
    · rw [h47]
      simp (disch := first | assumption | decide | omega) only [nI_lit, cT_lt, cF_lt, cT_le, cF_le, cT_eq, cF_eq, nF_le, mF_eq, mG_eq, mT_lt, eq_self, nI_clamp, nI_add, Nat.add_zero, nI_sub, s_i_ne, s_i_eq, s_i_2, s_l_1, s_l_ne, s_l_eq, s_p_ne, s_p_eq, s_p_2, s_q_1, s_q_ne, s_q_eq, u_ne, u_eq, v_ne, v_eq, w_ne, w_eq, jI_at_in, jL_at_in, false_or, or_false, true_or, or_true, true_and, and_true, false_and, and_false, not_true_eq_false, not_false_eq_true, ↓reduceIte, Option.bind_some, Option.map_some]
      rfl
    by_cases h58 : T a = 58
    · rw [h58]
      simp (disch := first | assumption | decide | omega) only [nI_lit, cT_lt, cF_lt, cT_le, cF_le, cT_eq, cF_eq, nF_le, mF_eq, mG_eq, mT_lt, eq_self, nI_clamp, nI_add, Nat.add_zero, nI_sub, s_i_ne, s_i_eq, s_i_2, s_l_1, s_l_ne, s_l_eq, s_p_ne, s_p_eq, s_p_2, s_q_1, s_q_ne, s_q_eq, u_ne, u_eq, v_ne, v_eq, w_ne, w_eq, jI_at_in, jL_at_in, false_or, or_false, true_or, or_true, true_and, and_true, false_and, and_false, not_true_eq_false, not_false_eq_true, ↓reduceIte, Option.bind_some, Option.map_some]
      rfl
    by_cases h59 : T a = 59
    · rw [h59]
      simp (disch := first | assumption | decide | omega) only [nI_lit, cT_lt, cF_lt, cT_le, cF_le, cT_eq, cF_eq, nF_le, mF_eq, mG_eq, mT_lt, eq_self, nI_clamp, nI_add, Nat.add_zero, nI_sub, s_i_ne, s_i_eq, s_i_2, s_l_1, s_l_ne, s_l_eq, s_p_ne, s_p_eq, s_p_2, s_q_1, s_q_ne, s_q_eq, u_ne, u_eq, v_ne, v_eq, w_ne, w_eq, jI_at_in, jL_at_in, false_or, or_false, true_or, or_true, true_and, and_true, false_and, and_false, not_true_eq_false, not_false_eq_true, ↓reduceIte, Option.bind_some, Option.map_some]
      rfl
    by_cases h60 : T a = 60
    · rw [h60]
      simp (disch := first | assumption | decide | omega) only [nI_lit, cT_lt, cF_lt, cT_le, cF_le, cT_eq, cF_eq, nF_le, mF_eq, mG_eq, mT_lt, eq_self, nI_clamp, nI_add, Nat.add_zero, nI_sub, s_i_ne, s_i_eq, s_i_2, s_l_1, s_l_ne, s_l_eq, s_p_ne, s_p_eq, s_p_2, s_q_1, s_q_ne, s_q_eq, u_ne, u_eq, v_ne, v_eq, w_ne, w_eq, jI_at_in, jL_at_in, false_or, or_false, true_or, or_true, true_and, and_true, false_and, and_false, not_true_eq_false, not_false_eq_true, ↓reduceIte, Option.bind_some, Option.map_some]
      rfl
    by_cases h61 : T a = 61
    · rw [h61]
      simp (disch := first | assumption | decide | omega) only [nI_lit, cT_lt, cF_lt, cT_le, cF_le, cT_eq, cF_eq, nF_le, mF_eq, mG_eq, mT_lt, eq_self, nI_clamp, nI_add, Nat.add_zero, nI_sub, s_i_ne, s_i_eq, s_i_2, s_l_1, s_l_ne, s_l_eq, s_p_ne, s_p_eq, s_p_2, s_q_1, s_q_ne, s_q_eq, u_ne, u_eq, v_ne, v_eq, w_ne, w_eq, jI_at_in, jL_at_in, false_or, or_false, true_or, or_true, true_and, and_true, false_and, and_false, not_true_eq_false, not_false_eq_true, ↓reduceIte, Option.bind_some, Option.map_some]
      rfl
    by_cases h124 : T a = 124
    · rw [h124]
      simp (disch := first | assumption | decide | omega) only [nI_lit, cT_lt, cF_lt, cT_le, cF_le, cT_eq, cF_eq, nF_le, mF_eq, mG_eq, mT_lt, eq_self, nI_clamp, nI_add, Nat.add_zero, nI_sub, s_i_ne, s_i_eq, s_i_2, s_l_1, s_l_ne, s_l_eq, s_p_ne, s_p_eq, s_p_2, s_q_1, s_q_ne, s_q_eq, u_ne, u_eq, v_ne, v_eq, w_ne, w_eq, jI_at_in, jL_at_in, false_or, or_false, true_or, or_true, true_and, and_true, false_and, and_false, not_true_eq_false, not_false_eq_true, ↓reduceIte, Option.bind_some, Option.map_some]
      rfl
    simp (disch := first | assumption | decide | omega) only [nI_lit, cT_lt, cF_lt, cT_le, cF_le, cT_eq, cF_eq, nF_le, mF_eq, mG_eq, mT_lt, eq_self, nI_clamp, nI_add, Nat.add_zero, nI_sub, s_i_ne, s_i_eq, s_i_2, s_l_1, s_l_ne, s_l_eq, s_p_ne, s_p_eq, s_p_2, s_q_1, s_q_ne, s_q_eq, u_ne, u_eq, v_ne, v_eq, w_ne, w_eq, jI_at_in, jL_at_in, false_or, or_false, true_or, or_true, true_and, and_true, false_and, and_false, not_true_eq_false, not_false_eq_true, ↓reduceIte, Option.bind_some, Option.map_some]
    unfold sgk
    rw [if_neg h40, if_neg h41, if_neg h42, if_neg h43, if_neg h45, if_neg h47, if_neg h58, if_neg h59, if_neg h60, if_neg h61, if_neg h124, if_pos rfl]
def rtell (ρ : jx_S) (n p : Int32) : jx_S := jx_i (jx_i ρ 106 4 n) 106 5 p
theorem q_r_fails (ρ : jx_S) (n p : Int32) (h : ρ.1 106 4 = 0) : p_r_fails n p ρ = some (0, rtell ρ n p) := by
  unfold p_r_fails
  rw [if_neg (by rw [h]; decide)]
  rfl
def radd (ρ : jx_S) (c : Nat) (k p n v : Int32) : jx_S := jx_i (jx_i (jx_i (jx_i (jx_i ρ 108 c k) 109 c p) 110 c n) 111 c v) 106 10 (nI (c + 1))
theorem q_r_202 (ρ : jx_S) (c k a e : Nat) (v : Int64) (hc : ρ.1 106 10 = nI c) (hk : k < 100) (hc2 : c < 1200) (hae : a ≤ e) (he : e ≤ 4000) : p_r_scan_202 (nI a) (nI e) v (nI k) ρ = some (.inl (nI e, radd ρ c (nI k) (nI a) (nI (e - a)) v.toInt32)) := by
  unfold p_r_scan_202 p_r_scan_282
  simp (disch := first | assumption | decide | omega) only [hc, nI_lit, cT_lt, cF_lt, cT_le, cF_le, cT_eq, cF_eq, nF_le, mF_eq, mG_eq, mT_lt, eq_self, nI_clamp, nI_add, Nat.add_zero, nI_sub, s_i_ne, s_i_eq, s_i_2, s_l_1, s_l_ne, s_l_eq, s_p_ne, s_p_eq, s_p_2, s_q_1, s_q_ne, s_q_eq, u_ne, u_eq, v_ne, v_eq, w_ne, w_eq, jI_at_in, jL_at_in, false_or, or_false, true_or, or_true, true_and, and_true, false_and, and_false, not_true_eq_false, not_false_eq_true, ↓reduceIte, Option.bind_some, Option.map_some]
  rfl
theorem q_r_202_no (ρ : jx_S) (c : Nat) (k a e : Int32) (v : Int64) (hc : ρ.1 106 10 = nI c) (hc2 : c ≤ 1200) (h : k = -1 ∨ c = 1200) (ht : ρ.1 106 4 = 0) : p_r_scan_202 a e v k ρ = some (.inr (0, rtell ρ 1 a)) := by
  have h1 : p_r_scan_218 a ρ = some (0, rtell ρ 1 a) := by
    unfold p_r_scan_218
    rw [q_r_fails ρ 1 a ht]
    rfl
  unfold p_r_scan_202
  rw [h1]
  by_cases hk : k = -1
  · rw [if_pos hk]; rfl
  · rw [if_neg hk]
    have : c = 1200 := by rcases h with h | h; exact absurd h hk; exact h
    rw [this] at hc
    rw [if_neg (by rw [hc]; decide)]
    rfl
theorem q_r_name (ρ : jx_S) (T : Nat → Nat) (z a e : Nat) (htx : tx (ρ.1 107) T z) (hz : z ≤ 4000) (hzz : ρ.1 106 1 = nI z) (hae : a < e) (he : ex (fun j => lc (T j) ≠ 0) z a e) :
    p_r_scan_58 (nI a) (nI a) 0 ρ = p_r_scan_202 (nI a) (nI e) 0 (if e - a ≤ 12 then nI (wkF 13 (cdf (fun j => lc (T (a + j))) (e - a))) else -1) ρ := by
  obtain ⟨e1, e2, e3, e4⟩ := he
  unfold p_r_scan_58
  have key := jx_loop_for (f := fun s : Int32 × Int32 × Int64 × jx_S => p_r_scan_58_s s.1 s.2.1 s.2.2.1 (s.2.2.2)) (fun i => (nI a, nI (a + i), 0, ρ)) (e - a) (X := p_r_scan_202 (nI a) (nI e) 0 (if e - a ≤ 12 then nI (wkF 13 (cdf (fun j => lc (T (a + j))) (e - a))) else -1) ρ) (n := 100000000) (by
    intro i hi
    show p_r_scan_58_s (nI a) (nI (a + i)) 0 ρ = _
    unfold p_r_scan_58_s
    have ho := q_r_octet ρ T z (a + i) htx hz hzz (by omega)
    have hlt := (htx (a + i) (by omega)).1
    have h3 := lc_iff.mp (e3 (a + i) (by omega) (by omega))
    rw [ho, Option.bind_some]
    dsimp only
    rw [q_r_lt ρ hlt]
    rcases Classical.em (97 ≤ T (a + i) ∧ T (a + i) ≤ 122) with hl | hl
    · rw [lti_1 hl, if_pos (by decide)]
      unfold p_r_scan_80
      rw [← nI_succ]
      rfl
    · rw [lti_0 hl, if_neg (by decide), ho, Option.bind_some]
      dsimp only
      rw [q_r_dg ρ hlt, dgi_1 (by omega), if_neg (by decide)]
      unfold p_r_scan_80
      rw [← nI_succ]
      rfl) (by
    show p_r_scan_58_s (nI a) (nI (a + (e - a))) 0 ρ = _
    rw [show a + (e - a) = e by omega]
    have hx : (if (nI e - nI a) ≤ (12 : Int32) then ((p_r_wordAt (nI a) (nI e - nI a) ρ).bind fun q12 => (p_r_scan_106 (nI a) (nI e) 0 q12.1 q12.2)) else (p_r_scan_106 (nI a) (nI e) 0 (-1 : Int32) ρ)) = p_r_scan_202 (nI a) (nI e) 0 (if e - a ≤ 12 then nI (wkF 13 (cdf (fun j => lc (T (a + j))) (e - a))) else -1) ρ := by
      have hwa := q_r_wordAt ρ T z a (e - a) htx hz hzz (by omega) (by omega) (fun j hj => e3 (a + j) (by omega) (by omega))
      rw [nI_sub (by omega)]
      by_cases hc : e - a ≤ 12
      · rw [if_pos (show nI (e - a) ≤ 12 from (nI_le (by omega) (by omega) : nI (e - a) ≤ nI 12)), if_pos hc, hwa]
        rfl
      · rw [if_neg (show ¬ nI (e - a) ≤ 12 from (nI_ge (by omega) (by omega) : ¬ nI (e - a) ≤ nI 12)), if_neg hc]
        rfl
    rw [← hx]
    unfold p_r_scan_58_s
    by_cases hez : e < z
    · have ho := q_r_octet ρ T z e htx hz hzz hez
      have hlt := (htx e hez).1
      have h3 : ¬ ((97 ≤ T e ∧ T e ≤ 122) ∨ (48 ≤ T e ∧ T e ≤ 57)) := fun q => e4 hez (lc_iff.mpr q)
      rw [ho, Option.bind_some]
      dsimp only
      rw [q_r_lt ρ hlt, lti_0 (fun q => h3 (Or.inl q)), if_neg (by decide), ho, Option.bind_some]
      dsimp only
      rw [q_r_dg ρ hlt, dgi_0 (fun q => h3 (Or.inr q)), if_pos rfl]
    · have ho := q_r_octet_no ρ z e hz hzz (by omega) (by omega)
      rw [ho, Option.bind_some]
      dsimp only
      rw [show v_r_isLetter (-1) ρ = 0 from (by decide : v_r_isLetter (-1) s0 = 0), if_neg (by decide), ho, Option.bind_some]
      dsimp only
      rw [show v_r_isDigit (-1) ρ = 0 from (by decide : v_r_isDigit (-1) s0 = 0), if_pos rfl]) (by omega)
  exact key
theorem q_r_num (ρ : jx_S) (T : Nat → Nat) (z a e : Nat) (htx : tx (ρ.1 107) T z) (hz : z ≤ 4000) (hzz : ρ.1 106 1 = nI z) (he : ex (fun j => 48 ≤ T j ∧ T j ≤ 57) z a e) :
    p_r_scan_118 (nI a) (nI a) 0 ρ = p_r_scan_202 (nI a) (nI e) (lN (nrf T a (e - a))) (if nrf T a (e - a) ≤ 2147483647 then 2 else -1) ρ := by
  obtain ⟨e1, e2, e3, e4⟩ := he
  unfold p_r_scan_118
  have key := jx_loop_for (f := fun s : Int32 × Int32 × Int64 × jx_S => p_r_scan_118_s s.1 s.2.1 s.2.2.1 (s.2.2.2)) (fun i => (nI a, nI (a + i), lN (nrf T a i), ρ)) (e - a) (X := p_r_scan_202 (nI a) (nI e) (lN (nrf T a (e - a))) (if nrf T a (e - a) ≤ 2147483647 then 2 else -1) ρ) (n := 100000000) (by
    intro i hi
    show p_r_scan_118_s (nI a) (nI (a + i)) (lN (nrf T a i)) ρ = _
    unfold p_r_scan_118_s
    have ho := q_r_octet ρ T z (a + i) htx hz hzz (by omega)
    have hlt := (htx (a + i) (by omega)).1
    have h3 := e3 (a + i) (by omega) (by omega)
    have h4 := nrf_le T a i (fun j hj => (e3 (a + j) (by omega) (by omega)).2)
    rw [ho, Option.bind_some]
    dsimp only
    rw [q_r_dg ρ hlt, dgi_1 h3, if_neg (by decide)]
    simp only [lg_le, show (2147483647 : Int64) = lN 2147483647 from rfl]
    unfold p_r_scan_160
    rw [nrf]
    by_cases hb : nrf T a i > 2147483647
    · rw [if_pos hb, if_neg (fun q => by have := (pk_lLE (by omega) (by omega)).mp q; omega), ← nI_succ]
      rfl
    · rw [if_neg hb, if_pos ((pk_lLE (by omega) (by omega)).mpr (by omega)), ho, Option.bind_some]
      dsimp only
      rw [nI_l (by omega), show (10 : Int64) = lN 10 from rfl, show (48 : Int64) = lN 48 from rfl, lN_mul, lN_add, lN_sub (by omega), ← nI_succ]
      rfl) (by
    show p_r_scan_118_s (nI a) (nI (a + (e - a))) (lN (nrf T a (e - a))) ρ = _
    rw [show a + (e - a) = e by omega]
    have h4 := nrf_le T a (e - a) (fun j hj => (e3 (a + j) (by omega) (by omega)).2)
    have hx : (if (lg_cmp (lN (nrf T a (e - a))) (2147483647 : Int64)) ≤ 0 then (p_r_scan_182 (nI a) (nI e) (lN (nrf T a (e - a))) (2 : Int32) ρ) else (p_r_scan_182 (nI a) (nI e) (lN (nrf T a (e - a))) (-1 : Int32) ρ)) = p_r_scan_202 (nI a) (nI e) (lN (nrf T a (e - a))) (if nrf T a (e - a) ≤ 2147483647 then 2 else -1) ρ := by
      simp only [lg_le, show (2147483647 : Int64) = lN 2147483647 from rfl]
      by_cases hc : nrf T a (e - a) ≤ 2147483647
      · rw [if_pos hc, if_pos ((pk_lLE (by omega) (by omega)).mpr hc)]
        rfl
      · rw [if_neg hc, if_neg (fun q => hc ((pk_lLE (by omega) (by omega)).mp q))]
        rfl
    rw [← hx]
    unfold p_r_scan_118_s
    by_cases hez : e < z
    · have ho := q_r_octet ρ T z e htx hz hzz hez
      have hlt := (htx e hez).1
      rw [ho, Option.bind_some]
      dsimp only
      rw [q_r_dg ρ hlt, dgi_0 (e4 hez), if_pos rfl]
    · have ho := q_r_octet_no ρ z e hz hzz (by omega) (by omega)
      rw [ho, Option.bind_some]
      dsimp only
      rw [show v_r_isDigit (-1) ρ = 0 from (by decide : v_r_isDigit (-1) s0 = 0), if_pos rfl]) (by omega)
  exact key
