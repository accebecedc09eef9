/-! TOKENS, 4: the two loops side by side. -/
def tkOne (T : Nat → Nat) (a : Nat) (τ ρ : jx_S) (k : Nat) : Prop := ∃ kd p n : Nat, τ.1 15 k = nI kd ∧ ρ.1 108 k = nI kd ∧ 1 ≤ kd ∧ kd ≤ 27 ∧ τ.1 17 k = nI p ∧ ρ.1 109 k = nI p ∧ 1 ≤ n ∧ p + n ≤ a ∧ ρ.1 110 k = nI n ∧ (kd = 1 → n ≤ 12 ∧ (∀ j, j < n → lc (T (p + j)) ≠ 0) ∧ τ.2 19 k = lN (cdf (fun j => lc (T (p + j))) n)) ∧ (kd = 2 → (τ.2 19 k).toInt32 = ρ.1 111 k)
def TokRel (T : Nat → Nat) (a c : Nat) (τ ρ : jx_S) : Prop := c ≤ 1200 ∧ a ≤ 4000 ∧ τ.1 2 4 = nI c ∧ ρ.1 106 10 = nI c ∧ (∀ k, k < c → tkOne T a τ ρ k) ∧ (∀ i j, i < j → j < c → τ.1 17 i < τ.1 17 j)
theorem tkOne_mono {T : Nat → Nat} {a a' : Nat} {τ ρ : jx_S} {k : Nat} (h : tkOne T a τ ρ k) (ha : a ≤ a') : tkOne T a' τ ρ k := by
  obtain ⟨kd, p, n, h1, h2, h3, h4, h5, h6, h7, h8, h9⟩ := h
  exact ⟨kd, p, n, h1, h2, h3, h4, h5, h6, h7, by omega, h9⟩
theorem TokRel_mono {T : Nat → Nat} {a a' c : Nat} {τ ρ : jx_S} (h : TokRel T a c τ ρ) (ha : a ≤ a') (ha' : a' ≤ 4000) : TokRel T a' c τ ρ := ⟨h.1, ha', h.2.2.1, h.2.2.2.1, fun k hk => tkOne_mono (h.2.2.2.2.1 k hk) ha, h.2.2.2.2.2⟩
theorem tok_add {T : Nat → Nat} {a c e kd : Nat} {τ ρ : jx_S} {v : Int32} {x : Int64} (h : TokRel T a c τ ρ) (hc : c < 1200) (hae : a < e) (he : e ≤ 4000) (h1 : 1 ≤ kd) (h27 : kd ≤ 27)
    (hn : kd = 1 → e - a ≤ 12 ∧ (∀ j, j < e - a → lc (T (a + j)) ≠ 0) ∧ x = lN (cdf (fun j => lc (T (a + j))) (e - a))) (hv : kd = 2 → x.toInt32 = v) :
    TokRel T e (c + 1) (tadd τ (nI kd) (nI a) x) (radd ρ c (nI kd) (nI a) (nI (e - a)) v) := by
  obtain ⟨q1, q2, q3, q4, q5, q6⟩ := h
  have a15 : (tadd τ (nI kd) (nI a) x).1 15 = upd (τ.1 15) c (nI kd) := by unfold tadd; simp (disch := first | assumption | decide | omega) only [q3, nI_lit, cT_lt, cF_lt, cT_le, cF_le, cT_eq, cF_eq, nF_le, mF_eq, mG_eq, mT_lt, eq_self, nI_clamp, nI_add, Nat.add_zero, nI_sub, s_i_ne, s_i_eq, s_i_2, s_l_1, s_l_ne, s_l_eq, s_p_ne, s_p_eq, s_p_2, s_q_1, s_q_ne, s_q_eq, u_ne, u_eq, v_ne, v_eq, w_ne, w_eq, jI_at_in, jL_at_in, false_or, or_false, true_or, or_true, true_and, and_true, false_and, and_false, not_true_eq_false, not_false_eq_true, ↓reduceIte, Option.bind_some, Option.map_some]
  have a17 : (tadd τ (nI kd) (nI a) x).1 17 = upd (τ.1 17) c (nI a) := by unfold tadd; simp (disch := first | assumption | decide | omega) only [q3, nI_lit, cT_lt, cF_lt, cT_le, cF_le, cT_eq, cF_eq, nF_le, mF_eq, mG_eq, mT_lt, eq_self, nI_clamp, nI_add, Nat.add_zero, nI_sub, s_i_ne, s_i_eq, s_i_2, s_l_1, s_l_ne, s_l_eq, s_p_ne, s_p_eq, s_p_2, s_q_1, s_q_ne, s_q_eq, u_ne, u_eq, v_ne, v_eq, w_ne, w_eq, jI_at_in, jL_at_in, false_or, or_false, true_or, or_true, true_and, and_true, false_and, and_false, not_true_eq_false, not_false_eq_true, ↓reduceIte, Option.bind_some, Option.map_some]
  have a19 : (tadd τ (nI kd) (nI a) x).2 19 = vp_updL (τ.2 19) c x := by unfold tadd; simp (disch := first | assumption | decide | omega) only [q3, nI_lit, cT_lt, cF_lt, cT_le, cF_le, cT_eq, cF_eq, nF_le, mF_eq, mG_eq, mT_lt, eq_self, nI_clamp, nI_add, Nat.add_zero, nI_sub, s_i_ne, s_i_eq, s_i_2, s_l_1, s_l_ne, s_l_eq, s_p_ne, s_p_eq, s_p_2, s_q_1, s_q_ne, s_q_eq, u_ne, u_eq, v_ne, v_eq, w_ne, w_eq, jI_at_in, jL_at_in, false_or, or_false, true_or, or_true, true_and, and_true, false_and, and_false, not_true_eq_false, not_false_eq_true, ↓reduceIte, Option.bind_some, Option.map_some]
  have b8 : (radd ρ c (nI kd) (nI a) (nI (e - a)) v).1 108 = upd (ρ.1 108) c (nI kd) := by unfold radd; simp (disch := first | assumption | decide | omega) only [nI_lit, cT_lt, cF_lt, cT_le, cF_le, cT_eq, cF_eq, nF_le, mF_eq, mG_eq, mT_lt, eq_self, nI_clamp, nI_add, Nat.add_zero, nI_sub, s_i_ne, s_i_eq, s_i_2, s_l_1, s_l_ne, s_l_eq, s_p_ne, s_p_eq, s_p_2, s_q_1, s_q_ne, s_q_eq, u_ne, u_eq, v_ne, v_eq, w_ne, w_eq, jI_at_in, jL_at_in, false_or, or_false, true_or, or_true, true_and, and_true, false_and, and_false, not_true_eq_false, not_false_eq_true, ↓reduceIte, Option.bind_some, Option.map_some]
  have b9 : (radd ρ c (nI kd) (nI a) (nI (e - a)) v).1 109 = upd (ρ.1 109) c (nI a) := by unfold radd; simp (disch := first | assumption | decide | omega) only [nI_lit, cT_lt, cF_lt, cT_le, cF_le, cT_eq, cF_eq, nF_le, mF_eq, mG_eq, mT_lt, eq_self, nI_clamp, nI_add, Nat.add_zero, nI_sub, s_i_ne, s_i_eq, s_i_2, s_l_1, s_l_ne, s_l_eq, s_p_ne, s_p_eq, s_p_2, s_q_1, s_q_ne, s_q_eq, u_ne, u_eq, v_ne, v_eq, w_ne, w_eq, jI_at_in, jL_at_in, false_or, or_false, true_or, or_true, true_and, and_true, false_and, and_false, not_true_eq_false, not_false_eq_true, ↓reduceIte, Option.bind_some, Option.map_some]
  have b10 : (radd ρ c (nI kd) (nI a) (nI (e - a)) v).1 110 = upd (ρ.1 110) c (nI (e - a)) := by unfold radd; simp (disch := first | assumption | decide | omega) only [nI_lit, cT_lt, cF_lt, cT_le, cF_le, cT_eq, cF_eq, nF_le, mF_eq, mG_eq, mT_lt, eq_self, nI_clamp, nI_add, Nat.add_zero, nI_sub, s_i_ne, s_i_eq, s_i_2, s_l_1, s_l_ne, s_l_eq, s_p_ne, s_p_eq, s_p_2, s_q_1, s_q_ne, s_q_eq, u_ne, u_eq, v_ne, v_eq, w_ne, w_eq, jI_at_in, jL_at_in, false_or, or_false, true_or, or_true, true_and, and_true, false_and, and_false, not_true_eq_false, not_false_eq_true, ↓reduceIte, Option.bind_some, Option.map_some]
  have b11 : (radd ρ c (nI kd) (nI a) (nI (e - a)) v).1 111 = upd (ρ.1 111) c v := by unfold radd; simp (disch := first | assumption | decide | omega) only [nI_lit, cT_lt, cF_lt, cT_le, cF_le, cT_eq, cF_eq, nF_le, mF_eq, mG_eq, mT_lt, eq_self, nI_clamp, nI_add, Nat.add_zero, nI_sub, s_i_ne, s_i_eq, s_i_2, s_l_1, s_l_ne, s_l_eq, s_p_ne, s_p_eq, s_p_2, s_q_1, s_q_ne, s_q_eq, u_ne, u_eq, v_ne, v_eq, w_ne, w_eq, jI_at_in, jL_at_in, false_or, or_false, true_or, or_true, true_and, and_true, false_and, and_false, not_true_eq_false, not_false_eq_true, ↓reduceIte, Option.bind_some, Option.map_some]
  refine ⟨by omega, he, by unfold tadd; simp (disch := first | assumption | decide | omega) only [q3, nI_lit, cT_lt, cF_lt, cT_le, cF_le, cT_eq, cF_eq, nF_le, mF_eq, mG_eq, mT_lt, eq_self, nI_clamp, nI_add, Nat.add_zero, nI_sub, s_i_ne, s_i_eq, s_i_2, s_l_1, s_l_ne, s_l_eq, s_p_ne, s_p_eq, s_p_2, s_q_1, s_q_ne, s_q_eq, u_ne, u_eq, v_ne, v_eq, w_ne, w_eq, jI_at_in, jL_at_in, false_or, or_false, true_or, or_true, true_and, and_true, false_and, and_false, not_true_eq_false, not_false_eq_true, ↓reduceIte, Option.bind_some, Option.map_some], by unfold radd; simp (disch := first | assumption | decide | omega) only [nI_lit, cT_lt, cF_lt, cT_le, cF_le, cT_eq, cF_eq, nF_le, mF_eq, mG_eq, mT_lt, eq_self, nI_clamp, nI_add, Nat.add_zero, nI_sub, s_i_ne, s_i_eq, s_i_2, s_l_1, s_l_ne, s_l_eq, s_p_ne, s_p_eq, s_p_2, s_q_1, s_q_ne, s_q_eq, u_ne, u_eq, v_ne, v_eq, w_ne, w_eq, jI_at_in, jL_at_in, false_or, or_false, true_or, or_true, true_and, and_true, false_and, and_false, not_true_eq_false, not_false_eq_true, ↓reduceIte, Option.bind_some, Option.map_some], fun k hk => ?_, fun i j hij hj => ?_⟩
  · unfold tkOne
    rw [a15, a17, a19, b8, b9, b10, b11]
    by_cases hkc : k = c
    · refine ⟨kd, a, e - a, ?_, ?_, h1, h27, ?_, ?_, by omega, by omega, ?_, fun q => ?_, fun q => ?_⟩
      · rw [u_eq hkc]
      · rw [u_eq hkc]
      · rw [u_eq hkc]
      · rw [u_eq hkc]
      · rw [u_eq hkc]
      · rw [v_eq hkc]; exact hn q
      · rw [v_eq hkc, u_eq hkc]; exact hv q
    · rw [u_ne hkc, u_ne hkc, u_ne hkc, u_ne hkc, u_ne hkc, u_ne hkc, v_ne hkc]
      exact tkOne_mono (q5 k (by omega)) (by omega)
  · rw [a17, u_ne (show i ≠ c by omega)]
    by_cases hjc : j = c
    · rw [u_eq hjc]
      obtain ⟨kd', p, n, r1, r2, r3, r4, r5, r6, r7, r8, r9⟩ := q5 i (by omega)
      rw [r5]
      exact nI_lt (by omega) (by omega)
    · rw [u_ne hjc]
      exact q6 i j hij (by omega)
def tokFC : Int32 × Int32 × Int32 × jx_S → Option ((Int32 × Int32 × Int32 × jx_S) ⊕ jx_S) := fun s => p_cTok_split_11_s s.1 s.2.1 s.2.2.1 (s.2.2.2)
def tokFR : Int32 × jx_S → Option ((Int32 × jx_S) ⊕ (Int32 × jx_S)) := fun s => p_r_scan_7_s s.1 (s.2)
def tokEnd (c z : Nat) (τ ρ : jx_S) : Prop := τ.1 15 c = 0 ∧ ρ.1 108 c = nI 28 ∧ τ.1 17 c = nI z ∧ ρ.1 109 c = nI z
def TokOut (T : Nat → Nat) (z : Nat) (pl : Int32) (τ ρ : jx_S) (b : Int32) : Prop := (b = 1 ∧ τ.1 1 0 = 0 ∧ ρ.1 106 4 = 0 ∧ ρ.1 106 5 = pl ∧ ∃ c, TokRel T z c τ ρ ∧ tokEnd c z τ ρ) ∨ (b = 0 ∧ τ.1 1 0 = 1 ∧ ρ.1 106 4 = 1 ∧ τ.1 1 1 = ρ.1 106 5)
/-- one step of both sides: either both go on, or both have a fault -/
theorem tok_step (T : Nat → Nat) (z a c turn : Nat) (τ ρ : jx_S) (hz : z ≤ 4000) (haz : a < z) (htu : turn ≤ a) (h1 : tx (τ.1 11) T z) (h2 : tx (ρ.1 107) T z) (h3 : ρ.1 106 1 = nI z) (hw : ∀ k, 3 ≤ k → k < 16 → τ.2 21 k = lN (wd k)) (h4 : τ.1 1 0 = 0) (h5 : ρ.1 106 4 = 0) (hR : TokRel T a c τ ρ) :
    (∃ e c' τ' ρ', a < e ∧ e ≤ z ∧ tokFC (nI z, nI a, nI turn, τ) = some (.inl (nI z, nI e, nI (turn + 1), τ')) ∧ tokFR (nI a, ρ) = some (.inl (nI e, ρ')) ∧ τ'.1 11 = τ.1 11 ∧ ρ'.1 107 = ρ.1 107 ∧ ρ'.1 106 1 = nI z ∧ τ'.2 21 = τ.2 21 ∧ τ'.1 1 = τ.1 1 ∧ ρ'.1 106 4 = ρ.1 106 4 ∧ ρ'.1 106 5 = ρ.1 106 5 ∧ TokRel T e c' τ' ρ') ∨
    (∃ e : Int32, tokFC (nI z, nI a, nI turn, τ) = some (.inl (nI z, e, nI (turn + 1), ctell τ 1 (nI a))) ∧ tokFR (nI a, ρ) = some (.inr (0, rtell ρ 1 (nI a)))) := by
  have hR0 := hR
  obtain ⟨q1, q2, q3, q4, q5, q6⟩ := hR
  have hlt := (h1 a haz).1
  have hat := tx_at h1 haz hz
  have ho := q_r_octet ρ T z a h2 hz h3 haz
  have htold : v_cFau_isTold τ = 0 := by unfold v_cFau_isTold; rw [if_pos h4]
  have hsg := q_r_signAt ρ T z a h2 hz h3 haz
  unfold tokFC tokFR
  dsimp only
  unfold p_cTok_split_11_s p_r_scan_7_s
  rw [if_neg (show ¬ (4000 : Int32) ≤ nI turn from (nI_ge (by omega) (by omega) : ¬ nI 4000 ≤ nI turn)), if_neg (nI_ge haz (by omega)), htold, if_neg (by decide), hat, h3, if_neg (nI_ge haz (by omega)), ho, Option.bind_some]
  dsimp only
  by_cases hb : T a = 32 ∨ T a = 10
  · left
    refine ⟨a + 1, c, τ, ρ, by omega, by omega, ?_, ?_, rfl, rfl, h3, rfl, rfl, rfl, rfl, TokRel_mono hR0 (by omega) (by omega)⟩
    · unfold p_cTok_split_54 p_cTok_split_91
      rw [← nI_succ, ← nI_succ]
      rcases hb with hb | hb
      · rw [hb, if_pos (show nI 32 = (32 : Int32) from rfl)]
      · rw [hb, if_neg (by decide), if_neg (by decide)]
    · unfold p_r_scan_33 p_r_scan_282
      rw [← nI_succ]
      rcases hb with hb | hb
      · rw [hb, if_pos (show nI 32 = (32 : Int32) from rfl)]
      · rw [hb, if_neg (by decide), if_neg (by decide)]
  have hn32 : ¬ nI (T a) = (32 : Int32) := fun q => hb (Or.inl ((nI_eq (by omega) (by omega)).mp q))
  have hn10 : ¬ nI (T a) = (10 : Int32) := fun q => hb (Or.inr ((nI_eq (by omega) (by omega)).mp q))
  rw [if_neg hn32, if_pos hn10, if_neg hn32, if_pos hn10, hsg, Option.bind_some]
  dsimp only
  rw [q_r_lt ρ hlt, q_r_dg ρ hlt, q3]
  by_cases hfull : c = 1200
  · right
    refine ⟨nI a, ?_, ?_⟩
    · rw [if_neg (by rw [hfull]; decide), q_c_tell τ 1 (nI a) h4, Option.bind_some]
      unfold p_cTok_split_91
      rw [← nI_succ]
    · rcases Classical.em (97 ≤ T a ∧ T a ≤ 122) with hl | hl
      · obtain ⟨e, he⟩ := ex_is (fun j => lc (T j) ≠ 0) z z a (by omega) (by omega)
        have hae : a < e := by
          rcases Nat.lt_or_ge a e with q | q
          · exact q
          · have : e = a := by have := he.1; omega
            rw [this] at he
            exact absurd (lc_iff.mpr (Or.inl hl)) (he.2.2.2 haz)
        rw [lti_1 hl, if_neg (by decide), q_r_name ρ T z a e h2 hz h3 hae he]
        exact q_r_202_no ρ c _ _ _ _ q4 (by omega) (Or.inr hfull) h5
      · rw [lti_0 hl, if_pos rfl]
        rcases Classical.em (48 ≤ T a ∧ T a ≤ 57) with hd | hd
        · obtain ⟨e, he⟩ := ex_is (fun j => 48 ≤ T j ∧ T j ≤ 57) z z a (by omega) (by omega)
          rw [dgi_1 hd, if_neg (by decide), q_r_num ρ T z a e h2 hz h3 he]
          exact q_r_202_no ρ c _ _ _ _ q4 (by omega) (Or.inr hfull) h5
        · rw [dgi_0 hd, if_pos rfl]
          unfold p_r_scan_200
          have key : ∀ kk : Int32, (if ¬ kk = (21 : Int32) then p_r_scan_202 (nI a) (nI a + 1) 0 kk ρ else p_r_scan_202 (nI a) (nI a + 2) 0 kk ρ) = some (.inr (0, rtell ρ 1 (nI a))) := by
            intro kk
            split
            · exact q_r_202_no ρ c _ _ _ _ q4 (by omega) (Or.inr hfull) h5
            · exact q_r_202_no ρ c _ _ _ _ q4 (by omega) (Or.inr hfull) h5
          exact key _
  rw [if_pos (show ¬ nI c = (1200 : Int32) from fun q => hfull ((nI_eq (b := 1200) (by omega) (by omega)).mp q))]
  rcases Classical.em (97 ≤ T a ∧ T a ≤ 122) with hl | hl
  · obtain ⟨e, he⟩ := ex_is (fun j => lc (T j) ≠ 0) z z a (by omega) (by omega)
    have hae : a < e := by
      rcases Nat.lt_or_ge a e with q | q
      · exact q
      · have : e = a := by have := he.1; omega
        rw [this] at he
        exact absurd (lc_iff.mpr (Or.inl hl)) (he.2.2.2 haz)
    have hez := he.2.1
    rw [lti_1 hl, if_neg (by decide), q_r_name ρ T z a e h2 hz h3 hae he, q_c_name τ T z a e h1 hz hw haz hl he h4]
    by_cases hc : e - a ≤ 12
    · left
      have hk := wkF_in (cdf (fun j => lc (T (a + j))) (e - a)) 13 (by omega)
      rw [if_pos hc, if_pos hc, q_r_202 ρ c _ a e 0 q4 (by omega) (by omega) (by omega) (by omega), Option.bind_some]
      refine ⟨e, c + 1, _, _, hae, hez, by unfold p_cTok_split_91; rw [← nI_succ], rfl, ?_, ?_, ?_, ?_, ?_, ?_, ?_, tok_add hR0 (by omega) hae (by omega) hk.1 (by omega) (fun _ => ⟨hc, fun j hj => he.2.2.1 (a + j) (by omega) (by omega), rfl⟩) (fun q => absurd q hk.2.2)⟩ <;> first | (unfold tadd; simp (disch := first | assumption | decide | omega) only [nI_lit, cT_lt, cF_lt, cT_le, cF_le, cT_eq, cF_eq, nF_le, mF_eq, mG_eq, mT_lt, eq_self, nI_clamp, nI_add, Nat.add_zero, nI_sub, s_i_ne, s_i_eq, s_i_2, s_l_1, s_l_ne, s_l_eq, s_p_ne, s_p_eq, s_p_2, s_q_1, s_q_ne, s_q_eq, u_ne, u_eq, v_ne, v_eq, w_ne, w_eq, jI_at_in, jL_at_in, false_or, or_false, true_or, or_true, true_and, and_true, false_and, and_false, not_true_eq_false, not_false_eq_true, ↓reduceIte, Option.bind_some, Option.map_some]; done) | (unfold radd; simp (disch := first | assumption | decide | omega) only [h3, nI_lit, cT_lt, cF_lt, cT_le, cF_le, cT_eq, cF_eq, nF_le, mF_eq, mG_eq, mT_lt, eq_self, nI_clamp, nI_add, Nat.add_zero, nI_sub, s_i_ne, s_i_eq, s_i_2, s_l_1, s_l_ne, s_l_eq, s_p_ne, s_p_eq, s_p_2, s_q_1, s_q_ne, s_q_eq, u_ne, u_eq, v_ne, v_eq, w_ne, w_eq, jI_at_in, jL_at_in, false_or, or_false, true_or, or_true, true_and, and_true, false_and, and_false, not_true_eq_false, not_false_eq_true, ↓reduceIte, Option.bind_some, Option.map_some]; done)
    · right
      rw [if_neg hc, if_neg hc, q_r_202_no ρ c _ _ _ _ q4 (by omega) (Or.inl rfl) h5, Option.bind_some]
      exact ⟨nI e, by unfold p_cTok_split_91; rw [← nI_succ], rfl⟩
  rw [lti_0 hl, if_pos rfl]
  rcases Classical.em (48 ≤ T a ∧ T a ≤ 57) with hd | hd
  · obtain ⟨e, he⟩ := ex_is (fun j => 48 ≤ T j ∧ T j ≤ 57) z z a (by omega) (by omega)
    have hae : a < e := by
      rcases Nat.lt_or_ge a e with q | q
      · exact q
      · have : e = a := by have := he.1; omega
        rw [this] at he
        exact absurd hd (he.2.2.2 haz)
    have hez := he.2.1
    rw [dgi_1 hd, if_neg (by decide), q_r_num ρ T z a e h2 hz h3 he, q_c_num τ T z a e h1 hz haz hd he h4]
    rcases ncr T a (e - a) (fun j hj => (he.2.2.1 (a + j) (by omega) (by omega)).1) with ⟨r1, r2⟩ | ⟨r1, r2⟩
    · left
      rw [if_pos r2, if_pos (by omega), show (2 : Int32) = nI 2 from rfl, q_r_202 ρ c 2 a e _ q4 (by omega) (by omega) (by omega) (by omega), Option.bind_some]
      refine ⟨e, c + 1, _, _, hae, hez, by unfold p_cTok_split_91; rw [← nI_succ], rfl, ?_, ?_, ?_, ?_, ?_, ?_, ?_, tok_add hR0 (by omega) hae (by omega) (by omega) (by omega) (fun q => absurd q (by omega)) (fun _ => by rw [r1])⟩ <;> first | (unfold tadd; simp (disch := first | assumption | decide | omega) only [nI_lit, cT_lt, cF_lt, cT_le, cF_le, cT_eq, cF_eq, nF_le, mF_eq, mG_eq, mT_lt, eq_self, nI_clamp, nI_add, Nat.add_zero, nI_sub, s_i_ne, s_i_eq, s_i_2, s_l_1, s_l_ne, s_l_eq, s_p_ne, s_p_eq, s_p_2, s_q_1, s_q_ne, s_q_eq, u_ne, u_eq, v_ne, v_eq, w_ne, w_eq, jI_at_in, jL_at_in, false_or, or_false, true_or, or_true, true_and, and_true, false_and, and_false, not_true_eq_false, not_false_eq_true, ↓reduceIte, Option.bind_some, Option.map_some]; done) | (unfold radd; simp (disch := first | assumption | decide | omega) only [h3, nI_lit, cT_lt, cF_lt, cT_le, cF_le, cT_eq, cF_eq, nF_le, mF_eq, mG_eq, mT_lt, eq_self, nI_clamp, nI_add, Nat.add_zero, nI_sub, s_i_ne, s_i_eq, s_i_2, s_l_1, s_l_ne, s_l_eq, s_p_ne, s_p_eq, s_p_2, s_q_1, s_q_ne, s_q_eq, u_ne, u_eq, v_ne, v_eq, w_ne, w_eq, jI_at_in, jL_at_in, false_or, or_false, true_or, or_true, true_and, and_true, false_and, and_false, not_true_eq_false, not_false_eq_true, ↓reduceIte, Option.bind_some, Option.map_some]; done)
    · right
      rw [if_neg (by omega), if_neg (by omega), q_r_202_no ρ c _ _ _ _ q4 (by omega) (Or.inl rfl) h5, Option.bind_some]
      exact ⟨nI e, by unfold p_cTok_split_91; rw [← nI_succ], rfl⟩
  rw [dgi_0 hd, if_pos rfl]
  have hl0 : lc (T a) = 0 := Decidable.not_not.mp (fun q => by rcases lc_iff.mp q with q | q <;> omega)
  rw [q_c_sign τ T z a h1 hz haz hl0 h4]
  have hs := (q_sg0 (T a) hlt).2
  unfold p_r_scan_200
  by_cases ha : T a = 45 ∧ a + 1 < z ∧ T (a + 1) = 62
  · left
    rw [if_pos ha, if_pos ha, if_neg (by decide), show nI a + (2 : Int32) = nI (a + 2) from nI_add a 2, show (21 : Int32) = nI 21 from rfl, q_r_202 ρ c 21 a (a + 2) 0 q4 (by omega) (by omega) (by omega) (by omega), Option.bind_some]
    refine ⟨a + 2, c + 1, _, _, by omega, by omega, by unfold p_cTok_split_91; rw [← nI_succ], rfl, ?_, ?_, ?_, ?_, ?_, ?_, ?_, tok_add hR0 (by omega) (by omega) (by omega) (by omega) (by omega) (fun q => absurd q (by omega)) (fun q => absurd q (by omega))⟩ <;> first | (unfold tadd; simp (disch := first | assumption | decide | omega) only [nI_lit, cT_lt, cF_lt, cT_le, cF_le, cT_eq, cF_eq, nF_le, mF_eq, mG_eq, mT_lt, eq_self, nI_clamp, nI_add, Nat.add_zero, nI_sub, s_i_ne, s_i_eq, s_i_2, s_l_1, s_l_ne, s_l_eq, s_p_ne, s_p_eq, s_p_2, s_q_1, s_q_ne, s_q_eq, u_ne, u_eq, v_ne, v_eq, w_ne, w_eq, jI_at_in, jL_at_in, false_or, or_false, true_or, or_true, true_and, and_true, false_and, and_false, not_true_eq_false, not_false_eq_true, ↓reduceIte, Option.bind_some, Option.map_some]; done) | (unfold radd; simp (disch := first | assumption | decide | omega) only [h3, nI_lit, cT_lt, cF_lt, cT_le, cF_le, cT_eq, cF_eq, nF_le, mF_eq, mG_eq, mT_lt, eq_self, nI_clamp, nI_add, Nat.add_zero, nI_sub, s_i_ne, s_i_eq, s_i_2, s_l_1, s_l_ne, s_l_eq, s_p_ne, s_p_eq, s_p_2, s_q_1, s_q_ne, s_q_eq, u_ne, u_eq, v_ne, v_eq, w_ne, w_eq, jI_at_in, jL_at_in, false_or, or_false, true_or, or_true, true_and, and_true, false_and, and_false, not_true_eq_false, not_false_eq_true, ↓reduceIte, Option.bind_some, Option.map_some]; done)
  · rw [if_neg ha, if_neg ha]
    by_cases hk : sgk (T a) = 0
    · right
      rw [if_pos hk, if_pos hk, if_pos (by decide), q_r_202_no ρ c _ _ _ _ q4 (by omega) (Or.inl rfl) h5, Option.bind_some]
      exact ⟨nI a, by unfold p_cTok_split_91; rw [← nI_succ], rfl⟩
    · left
      have hk21 : ∀ o, o < 256 → sgk o ≠ 21 ∧ sgk o ≠ 1 ∧ sgk o ≠ 2 := by decide +kernel
      have hk2 := hk21 (T a) hlt
      rw [if_neg hk, if_neg hk, if_pos (show ¬ nI (sgk (T a)) = (21 : Int32) from fun q => hk2.1 ((nI_eq (b := 21) (by omega) (by omega)).mp q)), show nI a + (1 : Int32) = nI (a + 1) from nI_add a 1, q_r_202 ρ c _ a (a + 1) 0 q4 (by omega) (by omega) (by omega) (by omega), Option.bind_some]
      refine ⟨a + 1, c + 1, _, _, by omega, by omega, by unfold p_cTok_split_91; rw [← nI_succ], rfl, ?_, ?_, ?_, ?_, ?_, ?_, ?_, tok_add hR0 (by omega) (by omega) (by omega) (by omega) (by omega) (fun q => absurd q hk2.2.1) (fun q => absurd q hk2.2.2)⟩ <;> first | (unfold tadd; simp (disch := first | assumption | decide | omega) only [nI_lit, cT_lt, cF_lt, cT_le, cF_le, cT_eq, cF_eq, nF_le, mF_eq, mG_eq, mT_lt, eq_self, nI_clamp, nI_add, Nat.add_zero, nI_sub, s_i_ne, s_i_eq, s_i_2, s_l_1, s_l_ne, s_l_eq, s_p_ne, s_p_eq, s_p_2, s_q_1, s_q_ne, s_q_eq, u_ne, u_eq, v_ne, v_eq, w_ne, w_eq, jI_at_in, jL_at_in, false_or, or_false, true_or, or_true, true_and, and_true, false_and, and_false, not_true_eq_false, not_false_eq_true, ↓reduceIte, Option.bind_some, Option.map_some]; done) | (unfold radd; simp (disch := first | assumption | decide | omega) only [h3, nI_lit, cT_lt, cF_lt, cT_le, cF_le, cT_eq, cF_eq, nF_le, mF_eq, mG_eq, mT_lt, eq_self, nI_clamp, nI_add, Nat.add_zero, nI_sub, s_i_ne, s_i_eq, s_i_2, s_l_1, s_l_ne, s_l_eq, s_p_ne, s_p_eq, s_p_2, s_q_1, s_q_ne, s_q_eq, u_ne, u_eq, v_ne, v_eq, w_ne, w_eq, jI_at_in, jL_at_in, false_or, or_false, true_or, or_true, true_and, and_true, false_and, and_false, not_true_eq_false, not_false_eq_true, ↓reduceIte, Option.bind_some, Option.map_some]; done)
theorem tok_loop (T : Nat → Nat) (z : Nat) (hz : z ≤ 4000) (pl : Int32) : ∀ m a c turn τ ρ N M, z - a ≤ m → a ≤ z → turn ≤ a → m + 2 < N → m + 2 < M → tx (τ.1 11) T z → tx (ρ.1 107) T z → ρ.1 106 1 = nI z → (∀ k, 3 ≤ k → k < 16 → τ.2 21 k = lN (wd k)) → τ.1 1 0 = 0 → ρ.1 106 4 = 0 → ρ.1 106 5 = pl → TokRel T a c τ ρ →
    ∃ τ' b ρ', jx_loop N tokFC (nI z, nI a, nI turn, τ) = some τ' ∧ jx_loop M tokFR (nI a, ρ) = some (b, ρ') ∧ TokOut T z pl τ' ρ' b := by
  intro m
  induction m with
  | zero =>
    intro a c turn τ ρ N M hm haz htu hN hM h1 h2 h3 hw h4 h5 h6 hR
    obtain ⟨N, rfl⟩ : ∃ M, N = M + 1 := ⟨N - 1, by omega⟩
    obtain ⟨M, rfl⟩ : ∃ K, M = K + 1 := ⟨M - 1, by omega⟩
    have e : a = z := by omega
    subst e
    have hR0 := hR
    obtain ⟨q1, q2, q3, q4, q5, q6⟩ := hR
    have c1 : tokFC (nI a, nI a, nI turn, τ) = some (.inr (jI_put 1201 (jI_put 1201 τ 15 (nI c) 0) 17 (nI c) (nI a))) := by
      unfold tokFC
      dsimp only
      unfold p_cTok_split_11_s p_cTok_split_97
      rw [q3, if_pos (show nI a ≤ nI a from nI_le (Nat.le_refl a) (by omega))]
      split <;> rfl
    have r1 : tokFR (nI a, ρ) = some (.inr (1, jx_i (jx_i ρ 108 c (28 : Int32)) 109 c (nI a))) := by
      unfold tokFR
      dsimp only
      unfold p_r_scan_7_s
      simp (disch := first | assumption | decide | omega) only [h3, q4, nI_lit, cT_lt, cF_lt, cT_le, cF_le, cT_eq, cF_eq, nF_le, mF_eq, mG_eq, mT_lt, eq_self, nI_clamp, nI_add, Nat.add_zero, nI_sub, s_i_ne, s_i_eq, s_i_2, s_l_1, s_l_ne, s_l_eq, s_p_ne, s_p_eq, s_p_2, s_q_1, s_q_ne, s_q_eq, u_ne, u_eq, v_ne, v_eq, w_ne, w_eq, jI_at_in, jL_at_in, false_or, or_false, true_or, or_true, true_and, and_true, false_and, and_false, not_true_eq_false, not_false_eq_true, ↓reduceIte, Option.bind_some, Option.map_some]
    refine ⟨_, _, _, jx_loop_inr c1, jx_loop_inr r1, Or.inl ⟨rfl, ?_, ?_, ?_, c, ⟨q1, hz, ?_, ?_, fun k hk => ?_, fun i j hij hj => ?_⟩, ?_⟩⟩
    · simp (disch := first | assumption | decide | omega) only [h4, nI_lit, cT_lt, cF_lt, cT_le, cF_le, cT_eq, cF_eq, nF_le, mF_eq, mG_eq, mT_lt, eq_self, nI_clamp, nI_add, Nat.add_zero, nI_sub, s_i_ne, s_i_eq, s_i_2, s_l_1, s_l_ne, s_l_eq, s_p_ne, s_p_eq, s_p_2, s_q_1, s_q_ne, s_q_eq, u_ne, u_eq, v_ne, v_eq, w_ne, w_eq, jI_at_in, jL_at_in, false_or, or_false, true_or, or_true, true_and, and_true, false_and, and_false, not_true_eq_false, not_false_eq_true, ↓reduceIte, Option.bind_some, Option.map_some]
    · simp (disch := first | assumption | decide | omega) only [h5, nI_lit, cT_lt, cF_lt, cT_le, cF_le, cT_eq, cF_eq, nF_le, mF_eq, mG_eq, mT_lt, eq_self, nI_clamp, nI_add, Nat.add_zero, nI_sub, s_i_ne, s_i_eq, s_i_2, s_l_1, s_l_ne, s_l_eq, s_p_ne, s_p_eq, s_p_2, s_q_1, s_q_ne, s_q_eq, u_ne, u_eq, v_ne, v_eq, w_ne, w_eq, jI_at_in, jL_at_in, false_or, or_false, true_or, or_true, true_and, and_true, false_and, and_false, not_true_eq_false, not_false_eq_true, ↓reduceIte, Option.bind_some, Option.map_some]
    · simp (disch := first | assumption | decide | omega) only [h6, nI_lit, cT_lt, cF_lt, cT_le, cF_le, cT_eq, cF_eq, nF_le, mF_eq, mG_eq, mT_lt, eq_self, nI_clamp, nI_add, Nat.add_zero, nI_sub, s_i_ne, s_i_eq, s_i_2, s_l_1, s_l_ne, s_l_eq, s_p_ne, s_p_eq, s_p_2, s_q_1, s_q_ne, s_q_eq, u_ne, u_eq, v_ne, v_eq, w_ne, w_eq, jI_at_in, jL_at_in, false_or, or_false, true_or, or_true, true_and, and_true, false_and, and_false, not_true_eq_false, not_false_eq_true, ↓reduceIte, Option.bind_some, Option.map_some]
    · simp (disch := first | assumption | decide | omega) only [q3, nI_lit, cT_lt, cF_lt, cT_le, cF_le, cT_eq, cF_eq, nF_le, mF_eq, mG_eq, mT_lt, eq_self, nI_clamp, nI_add, Nat.add_zero, nI_sub, s_i_ne, s_i_eq, s_i_2, s_l_1, s_l_ne, s_l_eq, s_p_ne, s_p_eq, s_p_2, s_q_1, s_q_ne, s_q_eq, u_ne, u_eq, v_ne, v_eq, w_ne, w_eq, jI_at_in, jL_at_in, false_or, or_false, true_or, or_true, true_and, and_true, false_and, and_false, not_true_eq_false, not_false_eq_true, ↓reduceIte, Option.bind_some, Option.map_some]
    · simp (disch := first | assumption | decide | omega) only [q4, nI_lit, cT_lt, cF_lt, cT_le, cF_le, cT_eq, cF_eq, nF_le, mF_eq, mG_eq, mT_lt, eq_self, nI_clamp, nI_add, Nat.add_zero, nI_sub, s_i_ne, s_i_eq, s_i_2, s_l_1, s_l_ne, s_l_eq, s_p_ne, s_p_eq, s_p_2, s_q_1, s_q_ne, s_q_eq, u_ne, u_eq, v_ne, v_eq, w_ne, w_eq, jI_at_in, jL_at_in, false_or, or_false, true_or, or_true, true_and, and_true, false_and, and_false, not_true_eq_false, not_false_eq_true, ↓reduceIte, Option.bind_some, Option.map_some]
    · have := q5 k hk
      unfold tkOne at this ⊢
      simp (disch := first | assumption | decide | omega) only [nI_lit, cT_lt, cF_lt, cT_le, cF_le, cT_eq, cF_eq, nF_le, mF_eq, mG_eq, mT_lt, eq_self, nI_clamp, nI_add, Nat.add_zero, nI_sub, s_i_ne, s_i_eq, s_i_2, s_l_1, s_l_ne, s_l_eq, s_p_ne, s_p_eq, s_p_2, s_q_1, s_q_ne, s_q_eq, u_ne, u_eq, v_ne, v_eq, w_ne, w_eq, jI_at_in, jL_at_in, false_or, or_false, true_or, or_true, true_and, and_true, false_and, and_false, not_true_eq_false, not_false_eq_true, ↓reduceIte, Option.bind_some, Option.map_some]
      exact this
    · have := q6 i j hij hj
      simp (disch := first | assumption | decide | omega) only [nI_lit, cT_lt, cF_lt, cT_le, cF_le, cT_eq, cF_eq, nF_le, mF_eq, mG_eq, mT_lt, eq_self, nI_clamp, nI_add, Nat.add_zero, nI_sub, s_i_ne, s_i_eq, s_i_2, s_l_1, s_l_ne, s_l_eq, s_p_ne, s_p_eq, s_p_2, s_q_1, s_q_ne, s_q_eq, u_ne, u_eq, v_ne, v_eq, w_ne, w_eq, jI_at_in, jL_at_in, false_or, or_false, true_or, or_true, true_and, and_true, false_and, and_false, not_true_eq_false, not_false_eq_true, ↓reduceIte, Option.bind_some, Option.map_some]
      exact this
    · unfold tokEnd
      simp (disch := first | assumption | decide | omega) only [nI_lit, cT_lt, cF_lt, cT_le, cF_le, cT_eq, cF_eq, nF_le, mF_eq, mG_eq, mT_lt, eq_self, nI_clamp, nI_add, Nat.add_zero, nI_sub, s_i_ne, s_i_eq, s_i_2, s_l_1, s_l_ne, s_l_eq, s_p_ne, s_p_eq, s_p_2, s_q_1, s_q_ne, s_q_eq, u_ne, u_eq, v_ne, v_eq, w_ne, w_eq, jI_at_in, jL_at_in, false_or, or_false, true_or, or_true, true_and, and_true, false_and, and_false, not_true_eq_false, not_false_eq_true, ↓reduceIte, Option.bind_some, Option.map_some]
  | succ m ih =>
    intro a c turn τ ρ N M hm haz htu hN hM h1 h2 h3 hw h4 h5 h6 hR
    by_cases hae : a = z
    · exact ih a c turn τ ρ N M (by omega) haz htu (by omega) (by omega) h1 h2 h3 hw h4 h5 h6 hR
    obtain ⟨N, rfl⟩ : ∃ M, N = M + 1 := ⟨N - 1, by omega⟩
    obtain ⟨M, rfl⟩ : ∃ K, M = K + 1 := ⟨M - 1, by omega⟩
    rcases tok_step T z a c turn τ ρ hz (by omega) htu h1 h2 h3 hw h4 h5 hR with ⟨e, c', τ', ρ', s1, s2, s3, s4, s5, s6, s7, s8, s9, s10, s11, s12⟩ | ⟨e, s3, s4⟩
    · rw [jx_loop_inl s3, jx_loop_inl s4]
      exact ih e c' (turn + 1) τ' ρ' N M (by omega) s2 (by omega) (by omega) (by omega) (by rw [s5]; exact h1) (by rw [s6]; exact h2) s7 (by rw [s8]; exact hw) (by rw [s9]; exact h4) (by rw [s10]; exact h5) (by rw [s11]; exact h6) s12
    · obtain ⟨N, rfl⟩ : ∃ M, N = M + 1 := ⟨N - 1, by omega⟩
      rw [jx_loop_inl s3, jx_loop_inr s4]
      have c1 : tokFC (nI z, e, nI (turn + 1), ctell τ 1 (nI a)) = some (.inr (jI_put 1201 (jI_put 1201 (ctell τ 1 (nI a)) 15 ((ctell τ 1 (nI a)).1 2 4) 0) 17 ((ctell τ 1 (nI a)).1 2 4) (nI z))) := by
        unfold tokFC
        dsimp only
        unfold p_cTok_split_11_s p_cTok_split_97
        have : v_cFau_isTold (ctell τ 1 (nI a)) = 1 := by unfold v_cFau_isTold ctell; simp (disch := first | assumption | decide | omega) only [nI_lit, cT_lt, cF_lt, cT_le, cF_le, cT_eq, cF_eq, nF_le, mF_eq, mG_eq, mT_lt, eq_self, nI_clamp, nI_add, Nat.add_zero, nI_sub, s_i_ne, s_i_eq, s_i_2, s_l_1, s_l_ne, s_l_eq, s_p_ne, s_p_eq, s_p_2, s_q_1, s_q_ne, s_q_eq, u_ne, u_eq, v_ne, v_eq, w_ne, w_eq, jI_at_in, jL_at_in, false_or, or_false, true_or, or_true, true_and, and_true, false_and, and_false, not_true_eq_false, not_false_eq_true, ↓reduceIte, Option.bind_some, Option.map_some]
        rw [this, if_pos (show ¬ (1 : Int32) = 0 by decide)]
        split
        · rfl
        · split <;> rfl
      refine ⟨_, _, _, jx_loop_inr c1, rfl, Or.inr ⟨rfl, ?_, ?_, ?_⟩⟩
      · unfold ctell; simp (disch := first | assumption | decide | omega) only [nI_lit, cT_lt, cF_lt, cT_le, cF_le, cT_eq, cF_eq, nF_le, mF_eq, mG_eq, mT_lt, eq_self, nI_clamp, nI_add, Nat.add_zero, nI_sub, s_i_ne, s_i_eq, s_i_2, s_l_1, s_l_ne, s_l_eq, s_p_ne, s_p_eq, s_p_2, s_q_1, s_q_ne, s_q_eq, u_ne, u_eq, v_ne, v_eq, w_ne, w_eq, jI_at_in, jL_at_in, false_or, or_false, true_or, or_true, true_and, and_true, false_and, and_false, not_true_eq_false, not_false_eq_true, ↓reduceIte, Option.bind_some, Option.map_some]
      · unfold rtell; simp (disch := first | assumption | decide | omega) only [nI_lit, cT_lt, cF_lt, cT_le, cF_le, cT_eq, cF_eq, nF_le, mF_eq, mG_eq, mT_lt, eq_self, nI_clamp, nI_add, Nat.add_zero, nI_sub, s_i_ne, s_i_eq, s_i_2, s_l_1, s_l_ne, s_l_eq, s_p_ne, s_p_eq, s_p_2, s_q_1, s_q_ne, s_q_eq, u_ne, u_eq, v_ne, v_eq, w_ne, w_eq, jI_at_in, jL_at_in, false_or, or_false, true_or, or_true, true_and, and_true, false_and, and_false, not_true_eq_false, not_false_eq_true, ↓reduceIte, Option.bind_some, Option.map_some]
      · unfold ctell rtell; simp (disch := first | assumption | decide | omega) only [nI_lit, cT_lt, cF_lt, cT_le, cF_le, cT_eq, cF_eq, nF_le, mF_eq, mG_eq, mT_lt, eq_self, nI_clamp, nI_add, Nat.add_zero, nI_sub, s_i_ne, s_i_eq, s_i_2, s_l_1, s_l_ne, s_l_eq, s_p_ne, s_p_eq, s_p_2, s_q_1, s_q_ne, s_q_eq, u_ne, u_eq, v_ne, v_eq, w_ne, w_eq, jI_at_in, jL_at_in, false_or, or_false, true_or, or_true, true_and, and_true, false_and, and_false, not_true_eq_false, not_false_eq_true, ↓reduceIte, Option.bind_some, Option.map_some]
/-- split and scan -/
theorem tok_all (T : Nat → Nat) (z : Nat) (hz : z ≤ 4000) (τ ρ : jx_S) (h1 : tx (τ.1 11) T z) (h2 : tx (ρ.1 107) T z) (h3 : ρ.1 106 1 = nI z) (hw : ∀ k, 3 ≤ k → k < 16 → τ.2 21 k = lN (wd k)) (h4 : τ.1 1 0 = 0) (h5 : ρ.1 106 4 = 0) :
    ∃ τ' b ρ', p_cTok_split (nI z) τ = some τ' ∧ p_r_scan ρ = some (b, ρ') ∧ TokOut T z (ρ.1 106 5) τ' ρ' b := by
  unfold p_cTok_split p_cTok_split_11 p_r_scan p_r_scan_7
  refine tok_loop T z hz (ρ.1 106 5) 4000 0 0 0 (jx_i τ 2 4 0) (jx_i ρ 106 10 0) 100000000 100000000 (by omega) (by omega) (by omega) (by omega) (by omega) ?_ ?_ ?_ ?_ ?_ ?_ ?_ ⟨by omega, by omega, ?_, ?_, fun k hk => absurd hk (by omega), fun i j hij hj => absurd hj (by omega)⟩
  · simp (disch := first | assumption | decide | omega) only [nI_lit, cT_lt, cF_lt, cT_le, cF_le, cT_eq, cF_eq, nF_le, mF_eq, mG_eq, mT_lt, eq_self, nI_clamp, nI_add, Nat.add_zero, nI_sub, s_i_ne, s_i_eq, s_i_2, s_l_1, s_l_ne, s_l_eq, s_p_ne, s_p_eq, s_p_2, s_q_1, s_q_ne, s_q_eq, u_ne, u_eq, v_ne, v_eq, w_ne, w_eq, jI_at_in, jL_at_in, false_or, or_false, true_or, or_true, true_and, and_true, false_and, and_false, not_true_eq_false, not_false_eq_true, ↓reduceIte, Option.bind_some, Option.map_some]; exact h1
  · simp (disch := first | assumption | decide | omega) only [nI_lit, cT_lt, cF_lt, cT_le, cF_le, cT_eq, cF_eq, nF_le, mF_eq, mG_eq, mT_lt, eq_self, nI_clamp, nI_add, Nat.add_zero, nI_sub, s_i_ne, s_i_eq, s_i_2, s_l_1, s_l_ne, s_l_eq, s_p_ne, s_p_eq, s_p_2, s_q_1, s_q_ne, s_q_eq, u_ne, u_eq, v_ne, v_eq, w_ne, w_eq, jI_at_in, jL_at_in, false_or, or_false, true_or, or_true, true_and, and_true, false_and, and_false, not_true_eq_false, not_false_eq_true, ↓reduceIte, Option.bind_some, Option.map_some]; exact h2
  · simp (disch := first | assumption | decide | omega) only [nI_lit, cT_lt, cF_lt, cT_le, cF_le, cT_eq, cF_eq, nF_le, mF_eq, mG_eq, mT_lt, eq_self, nI_clamp, nI_add, Nat.add_zero, nI_sub, s_i_ne, s_i_eq, s_i_2, s_l_1, s_l_ne, s_l_eq, s_p_ne, s_p_eq, s_p_2, s_q_1, s_q_ne, s_q_eq, u_ne, u_eq, v_ne, v_eq, w_ne, w_eq, jI_at_in, jL_at_in, false_or, or_false, true_or, or_true, true_and, and_true, false_and, and_false, not_true_eq_false, not_false_eq_true, ↓reduceIte, Option.bind_some, Option.map_some]; exact h3
  · intro k hk hk2; simp (disch := first | assumption | decide | omega) only [nI_lit, cT_lt, cF_lt, cT_le, cF_le, cT_eq, cF_eq, nF_le, mF_eq, mG_eq, mT_lt, eq_self, nI_clamp, nI_add, Nat.add_zero, nI_sub, s_i_ne, s_i_eq, s_i_2, s_l_1, s_l_ne, s_l_eq, s_p_ne, s_p_eq, s_p_2, s_q_1, s_q_ne, s_q_eq, u_ne, u_eq, v_ne, v_eq, w_ne, w_eq, jI_at_in, jL_at_in, false_or, or_false, true_or, or_true, true_and, and_true, false_and, and_false, not_true_eq_false, not_false_eq_true, ↓reduceIte, Option.bind_some, Option.map_some]; exact hw k hk hk2
  · simp (disch := first | assumption | decide | omega) only [h4, nI_lit, cT_lt, cF_lt, cT_le, cF_le, cT_eq, cF_eq, nF_le, mF_eq, mG_eq, mT_lt, eq_self, nI_clamp, nI_add, Nat.add_zero, nI_sub, s_i_ne, s_i_eq, s_i_2, s_l_1, s_l_ne, s_l_eq, s_p_ne, s_p_eq, s_p_2, s_q_1, s_q_ne, s_q_eq, u_ne, u_eq, v_ne, v_eq, w_ne, w_eq, jI_at_in, jL_at_in, false_or, or_false, true_or, or_true, true_and, and_true, false_and, and_false, not_true_eq_false, not_false_eq_true, ↓reduceIte, Option.bind_some, Option.map_some]
  · simp (disch := first | assumption | decide | omega) only [h5, nI_lit, cT_lt, cF_lt, cT_le, cF_le, cT_eq, cF_eq, nF_le, mF_eq, mG_eq, mT_lt, eq_self, nI_clamp, nI_add, Nat.add_zero, nI_sub, s_i_ne, s_i_eq, s_i_2, s_l_1, s_l_ne, s_l_eq, s_p_ne, s_p_eq, s_p_2, s_q_1, s_q_ne, s_q_eq, u_ne, u_eq, v_ne, v_eq, w_ne, w_eq, jI_at_in, jL_at_in, false_or, or_false, true_or, or_true, true_and, and_true, false_and, and_false, not_true_eq_false, not_false_eq_true, ↓reduceIte, Option.bind_some, Option.map_some]
  · simp (disch := first | assumption | decide | omega) only [nI_lit, cT_lt, cF_lt, cT_le, cF_le, cT_eq, cF_eq, nF_le, mF_eq, mG_eq, mT_lt, eq_self, nI_clamp, nI_add, Nat.add_zero, nI_sub, s_i_ne, s_i_eq, s_i_2, s_l_1, s_l_ne, s_l_eq, s_p_ne, s_p_eq, s_p_2, s_q_1, s_q_ne, s_q_eq, u_ne, u_eq, v_ne, v_eq, w_ne, w_eq, jI_at_in, jL_at_in, false_or, or_false, true_or, or_true, true_and, and_true, false_and, and_false, not_true_eq_false, not_false_eq_true, ↓reduceIte, Option.bind_some, Option.map_some]
  · simp (disch := first | assumption | decide | omega) only [nI_lit, cT_lt, cF_lt, cT_le, cF_le, cT_eq, cF_eq, nF_le, mF_eq, mG_eq, mT_lt, eq_self, nI_clamp, nI_add, Nat.add_zero, nI_sub, s_i_ne, s_i_eq, s_i_2, s_l_1, s_l_ne, s_l_eq, s_p_ne, s_p_eq, s_p_2, s_q_1, s_q_ne, s_q_eq, u_ne, u_eq, v_ne, v_eq, w_ne, w_eq, jI_at_in, jL_at_in, false_or, or_false, true_or, or_true, true_and, and_true, false_and, and_false, not_true_eq_false, not_false_eq_true, ↓reduceIte, Option.bind_some, Option.map_some]
  · simp (disch := first | assumption | decide | omega) only [nI_lit, cT_lt, cF_lt, cT_le, cF_le, cT_eq, cF_eq, nF_le, mF_eq, mG_eq, mT_lt, eq_self, nI_clamp, nI_add, Nat.add_zero, nI_sub, s_i_ne, s_i_eq, s_i_2, s_l_1, s_l_ne, s_l_eq, s_p_ne, s_p_eq, s_p_2, s_q_1, s_q_ne, s_q_eq, u_ne, u_eq, v_ne, v_eq, w_ne, w_eq, jI_at_in, jL_at_in, false_or, or_false, true_or, or_true, true_and, and_true, false_and, and_false, not_true_eq_false, not_false_eq_true, ↓reduceIte, Option.bind_some, Option.map_some]
