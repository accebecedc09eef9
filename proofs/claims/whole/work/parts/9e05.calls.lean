/-! CALLS, 5: run. -/
/-- what may be used, as it is now -/
theorem use_of {E : jEn} {G : jGh} {F : Nat} {nS tS : Nat → Nat} {R : Nat → jRw} {pN bN lN' : Nat → Nat} {ty V : Nat → Nat → Nat} {τ1 ρ1 τ ρ : jx_S} (h : US E G F nS tS R pN bN lN' ty V τ1 ρ1) (hc : sC τ1 τ) (hr : sR ρ1 ρ) : RP E G F nS pN bN lN' ty (wtN ρ1) (dsc R ρ1) (fun k => (R k).2.1) (fun k => (R k).2.2.2.1) (slet pN ty V (dsc R ρ1)) (spar pN ty V) τ ρ ∧ τ.1 4 10 = nI F ∧ ρ.1 106 38 = nI F ∧ F ≤ 40 := by
  refine ⟨RP_keep (rp_of h) (fun r hr' => ?_) ?_ (fun r hr' => ?_), ?_, ?_, h.2.2.2.2.1.1⟩
  · funext j
    exact (hc r j (by revert hr'; revert r; decide) (by revert hr'; revert r; decide) (fun q => by
      have h8 : r ≠ 0 ∧ r ≠ 8 ∧ r ≠ 9 := by clear q; revert hr'; revert r; decide
      simp only [fs_cl_run, List.mem_cons, List.not_mem_nil, or_false, Prod.mk.injEq] at q
      omega)).1
  · funext j
    exact (hc 19 j (by decide) (by decide) (by simp [fs_cl_run])).2
  · funext j
    exact (hr r j (by revert hr'; revert r; decide) (by revert hr'; revert r; decide) (by revert hr'; revert r; decide) (fun q => by
      have h8 : r ≠ 106 := by clear q; revert hr'; revert r; decide
      simp only [fs_r_run, List.mem_cons, List.not_mem_nil, or_false, Prod.mk.injEq] at q
      omega)).1
  · rw [(hc 4 10 (by decide) (by decide) (by decide)).1]; exact h.2.2.2.2.1.2.1
  · rw [(hr 106 38 (by decide) (by decide) (by decide) (by decide)).1]; exact h.2.2.2.2.1.2.2.1
/-- functions that there are, in both -/
theorem has_or {τ ρ : jx_S} (h : IV2 τ ρ) (x1 : Int32) : (v_cl_hasFunction x1 τ = 0 ∧ v_r_noFunction x1 ρ = 1) ∨ (v_cl_hasFunction x1 τ = 1 ∧ v_r_noFunction x1 ρ = 0 ∧ ∃ f τ1 ρ1 E G F nS tS R pN bN lN' ty V, x1 = nI f ∧ f < F ∧ US E G F nS tS R pN bN lN' ty V τ1 ρ1 ∧ sC τ1 τ ∧ sR ρ1 ρ) := by
  obtain ⟨T, z, g, h1, h2, h3, h4⟩ := h
  have no38 : ρ.1 106 38 = 0 → v_r_noFunction x1 ρ = 1 := fun q => by
    unfold v_r_noFunction
    rw [q]
    by_cases y : x1 < 0
    · rw [if_pos y]
    · rw [if_neg y, if_neg y]
  have nouse : v_cl_isUsable τ = 0 → v_cl_hasFunction x1 τ = 0 := fun q => by
    unfold v_cl_hasFunction
    rw [q, if_pos rfl]
  rcases h4 with h4 | h4
  · exact Or.inl ⟨nouse (c_nouse (Or.inl h4.1)), no38 h4.2.2.2.1⟩
  · rcases iCD_or h4 with ⟨q1, q2, q3, q4, q5⟩ | ⟨q1, q2, q3, τ1, ρ1, E, G, F, nS, tS, R, pN, bN, lN', ty, V, q, b3, b4⟩
    · exact Or.inl ⟨nouse (c_nouse (Or.inr q1)), no38 q4⟩
    · obtain ⟨hRP, e1, e2, e3⟩ := use_of q b3 b4
      unfold v_cl_hasFunction v_r_noFunction
      rw [c_use h4.1 q1, if_neg (by decide), e1, e2]
      by_cases y : x1 < 0
      · rw [if_pos y, if_pos y]; exact Or.inl ⟨rfl, rfl⟩
      · obtain ⟨f, f1, rfl⟩ := nI_ofP y
        rw [if_neg y, if_neg y]
        by_cases w : f < F
        · rw [if_neg (nI_ge w (by omega)), if_pos (nI_lt w (by omega))]
          exact Or.inr ⟨rfl, rfl, f, τ1, ρ1, E, G, F, nS, tS, R, pN, bN, lN', ty, V, rfl, w, q, b3, b4⟩
        · rw [if_pos (nI_le (by omega) f1), if_neg (nI_nlt (by omega) f1)]
          exact Or.inl ⟨rfl, rfl⟩
theorem r_run36 {ρ : jx_S} {x1 x2 x3 : Int32} (v : Nat) (h : (v_r_noFunction x1 ρ = 1 ∧ v = 1) ∨ (v_r_noFunction x1 ρ = 0 ∧ v = 2)) : p_r_run_36 x1 x2 x3 ρ = some (0, jx_i ρ 106 2 (nI v)) := by
  unfold p_r_run_36 p_r_run_37 p_r_run_42
  refine jx_loop_out (n := 99999999) (X := some (0, jx_i ρ 106 2 (nI v))) ?_
  show p_r_run_42_s x1 x2 x3 0 0 ρ = _
  unfold p_r_run_42_s p_r_run_86 p_r_run_109
  rw [if_pos rfl]
  rcases h with ⟨h1, h2⟩ | ⟨h1, h2⟩
  · rw [h1, h2, if_neg (by decide), if_neg (by decide)]; rfl
  · rw [h1, h2, if_pos rfl, if_neg (fun q => q rfl), if_neg (by decide)]; rfl
theorem IV2_run {τ ρ τ' ρ' : jx_S} {r r' x1 x2 x3 : Int32} (h : IV2 τ ρ) (hc : p_cl_run x1 x2 x3 τ = some (r, τ')) (hr : p_r_run x1 x2 x3 ρ = some (r', ρ')) (h11 : τ'.1 0 11 = 0) (h98 : ρ'.1 106 98 = 0) (hT : TD τ' ρ') : IV2 τ' ρ' := by
  obtain ⟨T, z, g, h1, h2, h3, h4⟩ := h
  have hf := f_cl_run τ _ _ _ τ jFr.rfl _ hc
  have hg := f_r_run ρ _ _ _ ρ jFr.rfl _ hr
  refine ⟨T, z, 0, iTX_move h1 (fun j => (hf 11 j (by decide) (by simp [fs_cl_run])).1) (hf 0 10 (by decide) (by decide)).1 (fun j => (hf 21 j (by decide) (by simp [fs_cl_run])).2) ⟨(hf 29 0 (by decide) (by decide)).1, (hf 23 0 (by decide) (by decide)).1⟩ (fun j => (hg 107 j (by decide) (by simp [fs_r_run])).1) (hg 106 1 (by decide) (by decide)).1, ⟨by omega, h11, h98, fun i hi => by omega⟩, hT, ?_⟩
  rcases h4 with h4 | ⟨a, τ0, τ1, ρ1, v', b1, b2, b3, b4, b5⟩
  · exact Or.inl (iND_move h4 (hf 0 12 (by decide) (by decide)).1 (fun j hj => (hg 106 j (by decide) (by revert hj; revert j; decide)).1))
  · refine Or.inr ⟨(hf 0 12 (by decide) (by decide)).1.trans a, τ0, τ1, ρ1, v', b1, b2, fun k j q1 q2 q3 => ?_, fun k j q1 q0 q2 q3 => ?_, b5⟩
    · have u := hf k j (fun q => q2 (by
        simp only [ms_cl_run, List.mem_cons, List.not_mem_nil, or_false] at q
        simp only [dynM, List.mem_cons, List.not_mem_nil, or_false]; omega)) q3
      have w := b3 k j q1 q2 q3
      exact ⟨u.1.trans w.1, u.2.trans w.2⟩
    · have u := hg k j (fun q => q2 (by
        simp only [ms_r_run, List.mem_cons, List.not_mem_nil, or_false] at q
        simp only [dynR, List.mem_cons, List.not_mem_nil, or_false]; omega)) q3
      have w := b4 k j q1 q0 q2 q3
      exact ⟨u.1.trans w.1, u.2.trans w.2⟩
/-- whether all parameters are ints -/
def allI (ty : Nat → Nat → Nat) (f n : Nat) : Prop := ∀ i, i < n → ty f i = 0
theorem c_ints {τ : jx_S} {f n : Nat} {ty : Nat → Nat → Nat} (hf : f < 40) (hn : n ≤ 8) (ht : ∀ i, i < n → ty f i < 14) (h57 : ∀ i, i < n → τ.1 57 (30 * f + i) = nI (ty f i)) : (allI ty f n ∧ p_cFun_takesInts_16 (nI f) (nI n) 0 τ = some (1, τ)) ∨ (¬ allI ty f n ∧ p_cFun_takesInts_16 (nI f) (nI n) 0 τ = some (0, τ)) := by
  have et : ∀ i, i < n → v_cFun_typeOf (nI f) (nI i) τ = nI (ty f i) := fun i hi => by
    unfold v_cFun_typeOf
    rw [show nI f * (30 : Int32) + nI i = nI (f * 30 + i) by rw [show (30 : Int32) = nI 30 from rfl, nI_mul, nI_add], jI_at_in (by omega) (by omega), show f * 30 + i = 30 * f + i by omega]
    exact h57 i hi
  have hl : ∀ d i, n - i = d → i ≤ n → (∀ j, j < i → ty f j = 0) → ∀ N, (allI ty f n ∧ jx_loop (N + d + 1) (fun s : Int32 × Int32 × Int32 × jx_S => p_cFun_takesInts_16_s s.1 s.2.1 s.2.2.1 s.2.2.2) (nI f, nI n, nI i, τ) = some (1, τ)) ∨ (¬ allI ty f n ∧ jx_loop (N + d + 1) (fun s : Int32 × Int32 × Int32 × jx_S => p_cFun_takesInts_16_s s.1 s.2.1 s.2.2.1 s.2.2.2) (nI f, nI n, nI i, τ) = some (0, τ)) := by
    intro d
    induction d with
    | zero =>
      intro i h1 h2 h3 N
      left
      refine ⟨fun j hj => h3 j (by omega), jx_loop_inr ?_⟩
      show p_cFun_takesInts_16_s (nI f) (nI n) (nI i) τ = _
      unfold p_cFun_takesInts_16_s
      rw [if_pos (nI_le (by omega) (by omega))]; rfl
    | succ d ih =>
      intro i h1 h2 h3 N
      by_cases y : ty f i = 0
      · have := ih (i + 1) (by omega) (by omega) (fun j hj => by
          by_cases w : j = i
          · rw [w]; exact y
          · exact h3 j (by omega)) N
        rw [show N + (d + 1) + 1 = (N + d + 1) + 1 by omega, jx_loop_inl (s1 := (nI f, nI n, nI (i + 1), τ))]
        · exact this
        · show p_cFun_takesInts_16_s (nI f) (nI n) (nI i) τ = _
          unfold p_cFun_takesInts_16_s
          rw [if_neg (nI_ge (by omega) (by omega)), et i (by omega), y, if_pos (show nI 0 = (0 : Int32) from rfl), ← nI_succ]
      · right
        refine ⟨fun q => y (q i (by omega)), jx_loop_inr ?_⟩
        show p_cFun_takesInts_16_s (nI f) (nI n) (nI i) τ = _
        have := ht i (by omega)
        unfold p_cFun_takesInts_16_s
        rw [if_neg (nI_ge (by omega) (by omega)), et i (by omega), if_neg (nI_ne0 (by omega) (by omega))]; rfl
  have := hl n 0 (by omega) (by omega) (fun j hj => by omega) (100000000 - n - 1)
  rw [show 100000000 - n - 1 + n + 1 = 100000000 by omega] at this
  exact this
theorem r_ints {ρ : jx_S} {f n : Nat} {x2 x3 : Int32} {ty : Nat → Nat → Nat} (hf : f < 40) (hn : n ≤ 8) (ht : ∀ i, i < n → ty f i < 14) (h127 : ρ.1 127 f = nI n) (h135 : ∀ i, i < n → ρ.1 135 (8 * f + i) = nI (ty f i)) : (allI ty f n → p_r_run_37 (nI f) x2 x3 1 ρ = p_r_run_86 (nI f) x2 x3 1 ρ) ∧ (¬ allI ty f n → p_r_run_37 (nI f) x2 x3 1 ρ = p_r_run_86 (nI f) x2 x3 0 ρ) := by
  have hfi : ¬ (nI f < 0 ∨ 40 ≤ f) := fun z => by
    rcases z with z | z
    · exact nI_pos (by omega) z
    · omega
  have hs : ∀ i, i < n → p_r_run_42_s (nI f) x2 x3 1 (nI i) ρ = some (.inl (nI f, x2, x3, (if ty f i = 0 then 1 else 0), nI (i + 1), ρ)) := fun i hi => by
    have := ht i hi
    unfold p_r_run_42_s p_r_run_78
    rw [if_neg (show ¬ (1 : Int32) = 0 by decide), nI_clamp (show f < 2 ^ 31 by omega), if_neg hfi, h127, if_neg (nI_ge hi (by omega)), show (8 : Int32) * nI f + nI i = nI (8 * f + i) by rw [show (8 : Int32) = nI 8 from rfl, nI_mul, nI_add], if_neg (nI_in (show 8 * f + i < 320 by omega) (by omega)), nI_clamp (show 8 * f + i < 2 ^ 31 by omega), h135 i hi, ← nI_succ]
    by_cases y : ty f i = 0
    · rw [if_pos y, y, if_neg (fun q => q rfl)]
    · rw [if_neg y, if_pos (nI_ne0 (by omega) (by omega))]
  have hl : ∀ d i, n - i = d → i ≤ n → (∀ j, j < i → ty f j = 0) → ∀ N, (allI ty f n → jx_loop (N + d + 1) (fun s : Int32 × Int32 × Int32 × Int32 × Int32 × jx_S => p_r_run_42_s s.1 s.2.1 s.2.2.1 s.2.2.2.1 s.2.2.2.2.1 s.2.2.2.2.2) (nI f, x2, x3, 1, nI i, ρ) = p_r_run_86 (nI f) x2 x3 1 ρ) ∧ (¬ allI ty f n → jx_loop (N + d + 1) (fun s : Int32 × Int32 × Int32 × Int32 × Int32 × jx_S => p_r_run_42_s s.1 s.2.1 s.2.2.1 s.2.2.2.1 s.2.2.2.2.1 s.2.2.2.2.2) (nI f, x2, x3, 1, nI i, ρ) = p_r_run_86 (nI f) x2 x3 0 ρ) := by
    intro d
    induction d with
    | zero =>
      intro i h1 h2 h3 N
      refine ⟨fun _ => jx_loop_out ?_ _, fun q => absurd (fun j hj => h3 j (by omega)) q⟩
      show p_r_run_42_s (nI f) x2 x3 1 (nI i) ρ = _
      unfold p_r_run_42_s
      rw [if_neg (show ¬ (1 : Int32) = 0 by decide), nI_clamp (show f < 2 ^ 31 by omega), if_neg hfi, h127, if_pos (nI_le (by omega) (by omega))]
    | succ d ih =>
      intro i h1 h2 h3 N
      have hsi := hs i (by omega)
      by_cases y : ty f i = 0
      · have := ih (i + 1) (by omega) (by omega) (fun j hj => by
          by_cases w : j = i
          · rw [w]; exact y
          · exact h3 j (by omega)) N
        rw [if_pos y] at hsi
        rw [show N + (d + 1) + 1 = (N + d + 1) + 1 by omega, jx_loop_inl (s1 := (nI f, x2, x3, 1, nI (i + 1), ρ)) hsi]
        exact this
      · refine ⟨fun q => absurd (q i (by omega)) y, fun _ => ?_⟩
        rw [if_neg y] at hsi
        rw [show N + (d + 1) + 1 = (N + d + 1) + 1 by omega, jx_loop_inl (s1 := (nI f, x2, x3, 0, nI (i + 1), ρ)) hsi]
        refine jx_loop_out ?_ _
        show p_r_run_42_s (nI f) x2 x3 0 (nI (i + 1)) ρ = _
        unfold p_r_run_42_s
        rw [if_pos rfl]
  have := hl n 0 (by omega) (by omega) (fun j hj => by omega) (100000000 - n - 1)
  rw [show 100000000 - n - 1 + n + 1 = 100000000 by omega] at this
  exact this
theorem call_run {τ ρ : jx_S} (h : IV2 τ ρ) (x1 x2 x3 : Int32) (hq : x3 = 0 ∨ x3 = 1) : (∃ r τ' ρ', p_cl_run x1 x2 x3 τ = some (r, τ') ∧ p_r_run x1 x2 x3 ρ = some (r, ρ') ∧ ρ'.1 106 2 = 0 ∧ IV2 τ' ρ') ∨ (v_cl_hasFunction x1 τ = 0 ∧ ∃ ρ', p_r_run x1 x2 x3 ρ = some (0, ρ') ∧ ρ'.1 106 2 = 1 ∧ IV2 τ ρ') ∨ ((v_cl_hasFunction x1 τ = 1 ∧ (x2 < 0 ∨ 50000 < x2 ∨ p_cFun_takesInts x1 (τ.1 0 11) τ = some (0, τ))) ∧ ∃ ρ', p_r_run x1 x2 x3 ρ = some (0, ρ') ∧ ρ'.1 106 2 = 2 ∧ IV2 τ ρ') := by
  rcases has_or h x1 with ⟨q1, q2⟩ | ⟨q1, q2, f, τ1, ρ1, E, G, F, nS, tS, R, pN, bN, lN', ty, V, rfl, hf, hUS, hC, hR⟩
  · right; left
    refine ⟨q1, jx_i ρ 106 2 (nI 1), ?_, by rw [s_i_eq, u_eq rfl]; rfl, IV2_2 h⟩
    unfold p_r_run
    rw [q2, if_pos (by decide)]
    exact r_run36 1 (Or.inl ⟨q2, rfl⟩)
  · obtain ⟨hRP, e1, e2, e3⟩ := use_of hUS hC hR
    obtain ⟨⟨a1, a2, a3, a4, a5⟩, ⟨b1, b2, b3, b4, b5⟩, ⟨c1, c2, c3, c4, c5⟩, ⟨d1, d2, d3, d4, d5⟩, _⟩ := hRP.2.2 f hf
    obtain ⟨hE, hEC, hER, hEV, hAP, hAN, hn, hUF, u⟩ := id hUS
    obtain ⟨_, _, ⟨_, _, _, _, _, p57⟩, ⟨_, _, _, _, _, _, p135⟩, _⟩ := hAP.2.2.2.2 f hf
    have h57 : ∀ i, i < pN f → τ.1 57 (30 * f + i) = nI (ty f i) := fun i hi => by
      rw [(hC 57 _ (by decide) (by decide) (by simp [fs_cl_run])).1]; exact p57 i (by omega)
    have h135 : ∀ i, i < pN f → ρ.1 135 (8 * f + i) = nI (ty f i) := fun i hi => by
      rw [(hR 135 _ (by decide) (by decide) (by decide) (by simp [fs_r_run])).1]; exact p135 i hi
    have hfi : ¬ (nI f < 0 ∨ 40 ≤ f) := fun z => by
      rcases z with z | z
      · exact nI_pos (by omega) z
      · omega
    have two : p_r_run_36 (nI f) x2 x3 ρ = some (0, jx_i ρ 106 2 (nI 2)) := r_run36 2 (Or.inr ⟨q2, rfl⟩)
    have h22 : (jx_i ρ 106 2 (nI 2)).1 106 2 = 2 := by rw [s_i_eq, u_eq rfl]; rfl
    by_cases y1 : x2 < 0
    · right; right
      refine ⟨⟨q1, Or.inl y1⟩, _, ?_, h22, IV2_2 h⟩
      unfold p_r_run
      rw [q2, if_neg (fun q => q rfl), if_pos y1]; exact two
    · by_cases y2 : 50000 < x2
      · right; right
        refine ⟨⟨q1, Or.inr (Or.inl y2)⟩, _, ?_, h22, IV2_2 h⟩
        unfold p_r_run
        rw [q2, if_neg (fun q => q rfl), if_neg y1, if_pos y2]; exact two
      · obtain ⟨lm, lm1, rfl⟩ := nI_ofP y1
        have hlm : lm ≤ 50000 := Classical.byContradiction (fun q => y2 (nI_lt (a := 50000) (by omega) lm1))
        obtain ⟨T, z, g, h1, ⟨g8, gg1, gg2, gg3⟩, h3, h4⟩ := id h
        have hrh : p_r_run (nI f) (nI lm) x3 ρ = if pN f = g then p_r_run_37 (nI f) (nI lm) x3 1 ρ else p_r_run_36 (nI f) (nI lm) x3 ρ := by
          unfold p_r_run
          rw [q2, if_neg (fun q => q rfl), if_neg y1, if_neg y2, nI_clamp (show f < 2 ^ 31 by omega), if_neg hfi, d1, gg2]
          by_cases w : pN f = g
          · rw [if_pos w, w, if_neg (fun q => q rfl)]
          · rw [if_neg w, if_pos (fun q => w ((nI_eq (by omega) (by omega)).1 q))]
        have hti : p_cFun_takesInts (nI f) (τ.1 0 11) τ = if pN f = g then p_cFun_takesInts_16 (nI f) (nI g) 0 τ else some (0, τ) := by
          unfold p_cFun_takesInts
          rw [jI_at_in (show f < 40 by omega) (by omega), c1, gg1]
          by_cases w : pN f = g
          · rw [if_pos w, w, if_pos rfl]
          · rw [if_neg w, if_neg (fun q => w ((nI_eq (by omega) (by omega)).1 q))]
        by_cases w : pN f = g
        · subst w
          rw [if_pos rfl] at hrh hti
          obtain ⟨r1, r2⟩ := r_ints (ρ := ρ) (f := f) (n := pN f) (x2 := nI lm) (x3 := x3) (ty := ty) (by omega) b1 (fun i hi => b4 i (by omega)) d1 h135
          rcases c_ints (τ := τ) (f := f) (n := pN f) (ty := ty) (by omega) b1 (fun i hi => b4 i (by omega)) h57 with ⟨k1, k2⟩ | ⟨k1, k2⟩
          · left
            rw [k2] at hti
            rw [r1 k1] at hrh
            have hrun := run_ok (f := f) (lm := lm) (x3 := x3) (τ := jx_i τ 0 11 0) (ρ := ρ) (RP_keep hRP (fun r hr => s_i_ne (fun q => by subst q; revert hr; decide)) rfl (fun _ _ => rfl)) hf hlm hq k1 gg2 (fun i hi => by rw [s_i_ne (by decide)]; exact gg3 i hi)
            obtain ⟨en, τ', ρ', m1, m2, m3, m4, m5, m6, m7⟩ := hrun
            have hcr : p_cl_run (nI f) (nI lm) x3 τ = some (nI en, τ') := by
              unfold p_cl_run
              rw [q1, if_pos (by decide), if_neg y1, if_neg y2, hti, Option.bind_some]
              show (if ¬ (1 : Int32) = 0 then ((p_cMac_runFunction (nI f) (nI lm) x3 (jx_i τ 0 11 0)).bind _) else none) = _
              rw [if_pos (by decide), m3]; rfl
            have hrr : p_r_run (nI f) (nI lm) x3 ρ = some (nI en, ρ') := by
              rw [hrh]
              unfold p_r_run_86
              rw [q2, if_pos rfl, if_pos (by decide)]; exact m4
            refine ⟨nI en, τ', ρ', hcr, hrr, m6, IV2_run h hcr hrr ?_ m7 m5⟩
            rw [(f_cMac_runFunction _ _ _ _ _ jFr.rfl _ m3 0 11 (by decide) (by decide)).1, s_i_eq, u_eq rfl]
          · right; right
            rw [k2] at hti
            refine ⟨⟨q1, Or.inr (Or.inr hti)⟩, jx_i ρ 106 2 (nI 2), ?_, h22, IV2_2 h⟩
            rw [hrh, r2 k1]
            unfold p_r_run_86 p_r_run_109
            rw [q2, if_pos rfl, if_neg (fun q => q rfl), if_neg (by decide)]; rfl
        · right; right
          rw [if_neg w] at hrh hti
          exact ⟨⟨q1, Or.inr (Or.inr hti)⟩, jx_i ρ 106 2 (nI 2), by rw [hrh]; exact two, h22, IV2_2 h⟩
