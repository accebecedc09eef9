/-! TYPING, 9: a name that is a function, both sides. -/
theorem ty_call {E : jEn} (hE : EnvOK E) {τ ρ : jx_S} {x w q tk m f F : Nat} {cs pN bN lN' tk' : Nat → Nat} {ty : Nat → Nat → Nat} (hC : EnvC E τ) (hR : EnvR E ρ) (hD : FD E F pN bN lN' tk' ty τ ρ) (hF : F ≤ 40) (h10 : τ.1 4 10 = nI F) (h38 : ρ.1 106 38 = nI F) (hx : x < 1200) (c1 : ρ.1 112 x = nI 1) (c2 : ρ.1 113 x = nI tk) (c3 : τ.1 25 (x + 1) = nI tk) (c4 : tk < eC E) (c5 : eK E tk = 1) (c7 : τ.1 23 (x + 1) = nI 29) (c12 : τ.1 27 (x + 1) = nI (if 0 < m then cs 0 + 1 else 0)) (c13 : ρ.1 119 x = nI m) (c14 : τ.1 35 (x + 1) = nI m) (c16 : 0 < m → ρ.1 114 x = nI (cs 0)) (hcs : ∀ j, j < m → cs j < 1200 ∧ τ.1 29 (cs j + 1) = nI (if j + 1 < m then cs (j + 1) + 1 else 0)) (hlk : ∀ i, i + 1 < m → ρ.1 120 (cs i) = nI (cs (i + 1))) (hlt : ∀ i j, i < j → j < m → cs i ≠ cs j) (hm : m < 1200) (hw : w < 14) (h37 : τ.1 37 (x + 1) = nI w) (h0 : τ.1 1 0 = 0) (h4 : ρ.1 106 4 = 0) (h55 : ρ.1 106 55 = nI q) (hq : q + m < 3000) (r117 : ρ.1 117 x = -1) :
    ∃ τ' ρ', p_cTyp_checkNode (nI f) (nI (x + 1)) τ = some τ' ∧ ((p_r_check (nI x) (nI w) ρ = some (0, ρ') ∧ (TSno τ ρ (eP E tk) 6 τ' ρ' ∨ TSno τ ρ (eP E tk) 7 τ' ρ')) ∨ (p_r_check (nI x) (nI w) ρ = some (1, ρ') ∧ ∃ g, g < F ∧ TSok τ ρ x w q m cs (fun i => ty g i) (some g) τ' ρ' ∧ m ≤ pN g ∧ lfv (pN g) m (bN g) (ty g m) (ty g (m + 1)) = nI w)) := by
  have hE1 := hE.1
  have hp := (hR.2 tk (by omega)).2.1
  have k23 : jI_at 1201 (τ.1 23) (nI (x + 1)) = nI 29 := by rw [jI_at_in (by omega) (by omega)]; exact c7
  have k25 : jI_at 1201 (τ.1 25) (nI (x + 1)) = nI tk := by rw [jI_at_in (by omega) (by omega)]; exact c3
  have k35 : jI_at 1201 (τ.1 35) (nI (x + 1)) = nI m := by rw [jI_at_in (by omega) (by omega)]; exact c14
  have k37 : jI_at 1201 (τ.1 37) (nI (x + 1)) = nI w := by rw [jI_at_in (by omega) (by omega)]; exact h37
  have fc := q_c_fn hE hC hF h10 (fun g hg => ⟨(hD g hg).2.2.2.2.2.2.2.2.2.2.1, (hD g hg).2.2.2.2.2.2.2.2.2.2.2.2⟩) c4 c5
  have n1 : ¬ (nI x < 0 ∨ 3000 ≤ x) := fun z => by
    rcases z with z | z
    · exact nI_pos (by omega) z
    · omega
  have R1 : EnvR E (jx_i ρ 124 x (nI w)) := EnvR_keep hR (by simp (disch := first | assumption | decide | omega) only [nI_lit, cT_lt, cF_lt, cT_le, cF_le, cT_eq, cF_eq, nF_le, mF_eq, mG_eq, mT_lt, eq_self, nI_clamp, nI_add, Nat.add_zero, nI_sub, s_i_ne, s_i_eq, s_i_2, s_l_1, s_l_ne, s_l_eq, s_p_ne, s_p_eq, s_p_2, s_q_1, s_q_ne, s_q_eq, u_ne, u_eq, v_ne, v_eq, w_ne, w_eq, jI_at_in, jL_at_in, false_or, or_false, true_or, or_true, true_and, and_true, false_and, and_false, not_true_eq_false, not_false_eq_true, ↓reduceIte, Option.bind_some, Option.map_some]) (by simp (disch := first | assumption | decide | omega) only [nI_lit, cT_lt, cF_lt, cT_le, cF_le, cT_eq, cF_eq, nF_le, mF_eq, mG_eq, mT_lt, eq_self, nI_clamp, nI_add, Nat.add_zero, nI_sub, s_i_ne, s_i_eq, s_i_2, s_l_1, s_l_ne, s_l_eq, s_p_ne, s_p_eq, s_p_2, s_q_1, s_q_ne, s_q_eq, u_ne, u_eq, v_ne, v_eq, w_ne, w_eq, jI_at_in, jL_at_in, false_or, or_false, true_or, or_true, true_and, and_true, false_and, and_false, not_true_eq_false, not_false_eq_true, ↓reduceIte, Option.bind_some, Option.map_some]) (by simp (disch := first | assumption | decide | omega) only [nI_lit, cT_lt, cF_lt, cT_le, cF_le, cT_eq, cF_eq, nF_le, mF_eq, mG_eq, mT_lt, eq_self, nI_clamp, nI_add, Nat.add_zero, nI_sub, s_i_ne, s_i_eq, s_i_2, s_l_1, s_l_ne, s_l_eq, s_p_ne, s_p_eq, s_p_2, s_q_1, s_q_ne, s_q_eq, u_ne, u_eq, v_ne, v_eq, w_ne, w_eq, jI_at_in, jL_at_in, false_or, or_false, true_or, or_true, true_and, and_true, false_and, and_false, not_true_eq_false, not_false_eq_true, ↓reduceIte, Option.bind_some, Option.map_some]) (by simp (disch := first | assumption | decide | omega) only [nI_lit, cT_lt, cF_lt, cT_le, cF_le, cT_eq, cF_eq, nF_le, mF_eq, mG_eq, mT_lt, eq_self, nI_clamp, nI_add, Nat.add_zero, nI_sub, s_i_ne, s_i_eq, s_i_2, s_l_1, s_l_ne, s_l_eq, s_p_ne, s_p_eq, s_p_2, s_q_1, s_q_ne, s_q_eq, u_ne, u_eq, v_ne, v_eq, w_ne, w_eq, jI_at_in, jL_at_in, false_or, or_false, true_or, or_true, true_and, and_true, false_and, and_false, not_true_eq_false, not_false_eq_true, ↓reduceIte, Option.bind_some, Option.map_some]) (by simp (disch := first | assumption | decide | omega) only [nI_lit, cT_lt, cF_lt, cT_le, cF_le, cT_eq, cF_eq, nF_le, mF_eq, mG_eq, mT_lt, eq_self, nI_clamp, nI_add, Nat.add_zero, nI_sub, s_i_ne, s_i_eq, s_i_2, s_l_1, s_l_ne, s_l_eq, s_p_ne, s_p_eq, s_p_2, s_q_1, s_q_ne, s_q_eq, u_ne, u_eq, v_ne, v_eq, w_ne, w_eq, jI_at_in, jL_at_in, false_or, or_false, true_or, or_true, true_and, and_true, false_and, and_false, not_true_eq_false, not_false_eq_true, ↓reduceIte, Option.bind_some, Option.map_some])
  have fr := q_r_fn hE R1 hF (by simp (disch := first | assumption | decide | omega) only [h38, nI_lit, cT_lt, cF_lt, cT_le, cF_le, cT_eq, cF_eq, nF_le, mF_eq, mG_eq, mT_lt, eq_self, nI_clamp, nI_add, Nat.add_zero, nI_sub, s_i_ne, s_i_eq, s_i_2, s_l_1, s_l_ne, s_l_eq, s_p_ne, s_p_eq, s_p_2, s_q_1, s_q_ne, s_q_eq, u_ne, u_eq, v_ne, v_eq, w_ne, w_eq, jI_at_in, jL_at_in, false_or, or_false, true_or, or_true, true_and, and_true, false_and, and_false, not_true_eq_false, not_false_eq_true, ↓reduceIte, Option.bind_some, Option.map_some]) (fun g hg => ⟨by rw [s_i_ne (by decide)]; exact (hD g hg).2.2.2.2.2.2.2.2.2.2.2.1, (hD g hg).2.2.2.2.2.2.2.2.2.2.2.2⟩) c4 c5
  have hin := fnF_in (E := E) (tk := tk') (t := tk) (F := F) F (Nat.le_refl F)
  generalize fnF E tk' tk F F = v at fc fr hin
  have hlt0 : ¬ (0 : Int32) ≤ -1 := by decide
  have hcl : ∀ r, p_cTyp_checkCall (nI (x + 1)) τ = some r → p_cTyp_checkNode (nI f) (nI (x + 1)) τ = some r := by
    intro r e
    unfold p_cTyp_checkNode
    rw [k23, e]
    rfl
  have hrf : ∀ r, (if 0 ≤ v then (p_r_checkName_54 (nI x) (nI w) (nI (eP E tk)) (jx_i (jx_i ρ 124 x (nI w)) 123 x v)) else ((p_r_fails (6 : Int32) (nI (eP E tk)) (jx_i (jx_i ρ 124 x (nI w)) 123 x v)).bind fun q7 => (if q7.1 = 0 ∨ q7.1 = 1 then (some ((q7.1, q7.2))) else none))) = some r → (r.1 = 0 ∨ r.1 = 1) → p_r_check (nI x) (nI w) ρ = some r := by
    intro r e hr
    unfold p_r_check p_r_checkName
    rw [if_neg (nI_in (show x < 3000 by omega) (by omega)), nI_clamp (show x < 2 ^ 31 by omega), c2, if_neg (nI_in (show tk < 1202 by omega) (by omega)), if_neg n1, if_neg n1, c1, if_neg (by decide), if_neg n1, s_i_ne (show (113 : Nat) ≠ 124 by decide), c2, if_neg (nI_in (show tk < 1202 by omega) (by omega)), if_neg n1, s_i_ne (show (117 : Nat) ≠ 124 by decide), r117, if_neg hlt0, if_neg n1, fr, Option.bind_some, if_neg n1, if_neg n1, s_i_ne (show (109 : Nat) ≠ 124 by decide), nI_clamp (show tk < 2 ^ 31 by omega), hp]
    dsimp only
    rw [s_i_eq, u_eq rfl, e, Option.bind_some, if_pos hr]
  rcases hin with hv | ⟨g, hg, hv⟩
  · -- unknown
    subst hv
    have hrt : ∀ r, r ∉ [106, 123, 124, 144, 145] → (rtell (jx_i (jx_i ρ 124 x (nI w)) 123 x (-1)) 6 (nI (eP E tk))).1 r = ρ.1 r := fun r hr => by
      simp only [List.mem_cons, List.not_mem_nil, or_false, not_or] at hr
      unfold rtell
      rw [s_i_ne hr.1, s_i_ne hr.1, s_i_ne hr.2.1, s_i_ne hr.2.2.1]
    refine ⟨ctell τ 6 (nI (eP E tk)), rtell (jx_i (jx_i ρ 124 x (nI w)) 123 x (-1)) 6 (nI (eP E tk)), hcl _ ?_, Or.inl ⟨hrf (0, _) ?_ (Or.inl rfl), Or.inl (fr37 (fun _ _ => rfl) rfl (by unfold rtell; simp (disch := first | assumption | decide | omega) only [nI_lit, cT_lt, cF_lt, cT_le, cF_le, cT_eq, cF_eq, nF_le, mF_eq, mG_eq, mT_lt, eq_self, nI_clamp, nI_add, Nat.add_zero, nI_sub, s_i_ne, s_i_eq, s_i_2, s_l_1, s_l_ne, s_l_eq, s_p_ne, s_p_eq, s_p_2, s_q_1, s_q_ne, s_q_eq, u_ne, u_eq, v_ne, v_eq, w_ne, w_eq, jI_at_in, jL_at_in, false_or, or_false, true_or, or_true, true_and, and_true, false_and, and_false, not_true_eq_false, not_false_eq_true, ↓reduceIte, Option.bind_some, Option.map_some]) (by unfold rtell; simp (disch := first | assumption | decide | omega) only [nI_lit, cT_lt, cF_lt, cT_le, cF_le, cT_eq, cF_eq, nF_le, mF_eq, mG_eq, mT_lt, eq_self, nI_clamp, nI_add, Nat.add_zero, nI_sub, s_i_ne, s_i_eq, s_i_2, s_l_1, s_l_ne, s_l_eq, s_p_ne, s_p_eq, s_p_2, s_q_1, s_q_ne, s_q_eq, u_ne, u_eq, v_ne, v_eq, w_ne, w_eq, jI_at_in, jL_at_in, false_or, or_false, true_or, or_true, true_and, and_true, false_and, and_false, not_true_eq_false, not_false_eq_true, ↓reduceIte, Option.bind_some, Option.map_some]) hrt)⟩⟩
    · unfold p_cTyp_checkCall p_cTyp_tell
      rw [k25, fc, Option.bind_some]
      dsimp only
      rw [if_neg (by decide), k25, jI_at_in (by omega) (by omega), (hC tk (by omega)).2.1, q_c_tell τ 6 _ h0]
      rfl
    · rw [if_neg hlt0]
      exact r_fails7 (by rw [s_i_ne (by decide), s_i_ne (by decide)]; exact h4) 6 _
  subst hv
  obtain ⟨d1, d2, d3, d4, d5, d6, d7, d8, d9, d10, d11, d12, d13, d14⟩ := hD g hg
  have hg40 : g < 40 := by omega
  have hvn : ¬ nI g = (-1 : Int32) := fun z => by
    have := mF_eq (show g < 2 ^ 31 by omega)
    rw [show (-nI 1 : Int32) = -1 from rfl, z] at this
    simp at this
  rw [if_pos (nI_pos' (show g < 2 ^ 31 by omega))] at hrf
  -- the class behind the target's store
  have τ1n : ∀ r, r ≠ 33 → (jI_put 1201 τ 33 (nI (x + 1)) (nI g)).1 r = τ.1 r := fun r hr => s_p_ne hr
  have C1 : EnvC E (jI_put 1201 τ 33 (nI (x + 1)) (nI g)) := EnvC_keep hC (τ1n 15 (by decide)) (τ1n 17 (by decide)) rfl
  have rq := q_require_no hE C1 (by rw [τ1n 1 (by decide)]; exact h0) hx (by rw [τ1n 25 (by decide)]; exact c3) c4
  have hlf : m ≤ pN g → v_cTyp_leftOfFunction (nI g) (nI m) (jI_put 1201 τ 33 (nI (x + 1)) (nI g)) = lfv (pN g) m (bN g) (ty g m) (ty g (m + 1)) := fun hmp => c_lfv hg40 d3 hmp (by rw [τ1n 43 (by decide)]; exact d1) (by rw [τ1n 45 (by decide)]; exact d4) d6 (fun h => ⟨(d9 m (by omega)).1, by rw [τ1n 57 (by decide)]; exact (d9 m (by omega)).2.1⟩) (fun h => ⟨(d9 (m + 1) (by omega)).1, by rw [τ1n 57 (by decide)]; exact (d9 (m + 1) (by omega)).2.1⟩)
  have cno : p_cTyp_checkCall_104 (nI (x + 1)) (nI g) (nI m) (nI (x + 1)) (jI_put 1201 τ 33 (nI (x + 1)) (nI g)) = some (ctell (jI_put 1201 τ 33 (nI (x + 1)) (nI g)) 7 (nI (eP E tk))) := by
    unfold p_cTyp_checkCall_104 p_cTyp_checkCall_105 p_cTyp_checkCall_124
    rw [rq, Option.bind_some]
    refine jx_loop_out (X := some (ctell (jI_put 1201 τ 33 (nI (x + 1)) (nI g)) 7 (nI (eP E tk)))) ?_ 99999999
    show p_cTyp_checkCall_124_s (nI g) (nI m) _ 0 _ = _
    unfold p_cTyp_checkCall_124_s
    rw [told_v (by unfold ctell; simp (disch := first | assumption | decide | omega) only [nI_lit, cT_lt, cF_lt, cT_le, cF_le, cT_eq, cF_eq, nF_le, mF_eq, mG_eq, mT_lt, eq_self, nI_clamp, nI_add, Nat.add_zero, nI_sub, s_i_ne, s_i_eq, s_i_2, s_l_1, s_l_ne, s_l_eq, s_p_ne, s_p_eq, s_p_2, s_q_1, s_q_ne, s_q_eq, u_ne, u_eq, v_ne, v_eq, w_ne, w_eq, jI_at_in, jL_at_in, false_or, or_false, true_or, or_true, true_and, and_true, false_and, and_false, not_true_eq_false, not_false_eq_true, ↓reduceIte, Option.bind_some, Option.map_some]; decide), if_pos (show ¬ (1 : Int32) = 0 by decide)]
    split <;> rfl
  have ccl : ∀ r, (if nI (pN g) < nI m then some (ctell (jI_put 1201 τ 33 (nI (x + 1)) (nI g)) 7 (nI (eP E tk))) else (if ¬ (v_cTyp_leftOfFunction (nI g) (nI m) (jI_put 1201 τ 33 (nI (x + 1)) (nI g))) = nI w then some (ctell (jI_put 1201 τ 33 (nI (x + 1)) (nI g)) 7 (nI (eP E tk))) else p_cTyp_checkCall_105 (nI (x + 1)) (nI g) (nI m) (1 : Int32) (nI (x + 1)) (jI_put 1201 τ 33 (nI (x + 1)) (nI g)))) = some r → p_cTyp_checkNode (nI f) (nI (x + 1)) τ = some r := by
    intro r e
    refine hcl r ?_
    unfold p_cTyp_checkCall
    rw [k25, fc, Option.bind_some]
    dsimp only
    rw [if_pos hvn, k35, k37, jI_at_in (by omega) (by omega), d1, cno]
    exact e
  -- the reference
  have σn : ∀ r, r ≠ 123 → r ≠ 124 → (jx_i (jx_i ρ 124 x (nI w)) 123 x (nI g)).1 r = ρ.1 r := fun r h1 h2 => by rw [s_i_ne h1, s_i_ne h2]
  have σ123 : (jx_i (jx_i ρ 124 x (nI w)) 123 x (nI g)).1 123 x = nI g := by rw [s_i_eq, u_eq rfl]
  have hlt1 : (-1 : Int32) < 0 := by decide
  have rtk : p_r_takes (nI x) (jx_i (jx_i ρ 124 x (nI w)) 123 x (nI g)) = some (nI (pN g), jx_i (jx_i ρ 124 x (nI w)) 123 x (nI g)) := by
    unfold p_r_takes
    rw [if_neg (nI_in (show x < 3000 by omega) (by omega)), nI_clamp (show x < 2 ^ 31 by omega), σn 117 (by decide) (by decide), r117, if_pos hlt1, if_neg n1, σ123, if_neg (nI_in hg40 (by omega)), nI_clamp (show g < 2 ^ 31 by omega), σn 127 (by decide) (by decide), d2]
  have rty : ∀ σ : jx_S, (∀ r, r ≠ 144 → r ≠ 145 → r ≠ 106 → σ.1 r = (jx_i (jx_i ρ 124 x (nI w)) 123 x (nI g)).1 r) → ∀ k, k < 320 → p_r_typeOf (nI x) (nI k) σ = some (if pN g ≤ k then nI (bN g) else nI (ty g k), σ) := by
    intro σ h1 k hk
    have e8 : (8 : Int32) * nI g + nI k = nI (8 * g + k) := by rw [show (8 : Int32) = nI 8 from rfl, nI_mul, nI_add]
    unfold p_r_typeOf
    rw [if_neg (nI_in (show x < 3000 by omega) (by omega)), nI_clamp (show x < 2 ^ 31 by omega), h1 117 (by decide) (by decide) (by decide), σn 117 (by decide) (by decide), r117, if_pos hlt1, if_neg n1, h1 123 (by decide) (by decide) (by decide), σ123, if_neg (nI_in hg40 (by omega)), nI_clamp (show g < 2 ^ 31 by omega), h1 127 (by decide) (by decide) (by decide), σn 127 (by decide) (by decide), d2]
    have n2 : ¬ (nI g < 0 ∨ 40 ≤ g) := fun z => by
      rcases z with z | z
      · exact nI_pos (by omega) z
      · omega
    by_cases hpk : pN g ≤ k
    · rw [if_pos (nI_le hpk (by omega)), if_neg n2, h1 128 (by decide) (by decide) (by decide), σn 128 (by decide) (by decide), d5, if_pos hpk]
    · rw [if_neg (nI_ge (by omega) (by omega)), e8, if_neg (nI_in (show 8 * g + k < 320 by omega) (by omega)), nI_clamp (show 8 * g + k < 2 ^ 31 by omega), h1 135 (by decide) (by decide) (by decide), σn 135 (by decide) (by decide), d10 k (by omega), if_neg hpk]
  have h119 : (jx_i (jx_i ρ 124 x (nI w)) 123 x (nI g)).1 119 x = nI m := by rw [σn 119 (by decide) (by decide)]; exact c13
  have h4' : (jx_i (jx_i ρ 124 x (nI w)) 123 x (nI g)).1 106 4 = 0 := by rw [σn 106 (by decide) (by decide)]; exact h4
  have n7 : p_r_checkName_77 (nI (eP E tk)) (jx_i (jx_i ρ 124 x (nI w)) 123 x (nI g)) = some (0, rtell (jx_i (jx_i ρ 124 x (nI w)) 123 x (nI g)) 7 (nI (eP E tk))) := by
    unfold p_r_checkName_77
    exact r_fails7 h4' 7 _
  have hrt : ∀ r, r ∉ [106, 123, 124, 144, 145] → (rtell (jx_i (jx_i ρ 124 x (nI w)) 123 x (nI g)) 7 (nI (eP E tk))).1 r = ρ.1 r := fun r hr => by
    simp only [List.mem_cons, List.not_mem_nil, or_false, not_or] at hr
    unfold rtell
    rw [s_i_ne hr.1, s_i_ne hr.1, s_i_ne hr.2.1, s_i_ne hr.2.2.1]
  have tno : TSno τ ρ (eP E tk) 7 (ctell (jI_put 1201 τ 33 (nI (x + 1)) (nI g)) 7 (nI (eP E tk))) (rtell (jx_i (jx_i ρ 124 x (nI w)) 123 x (nI g)) 7 (nI (eP E tk))) := by
    refine ⟨by unfold ctell; simp (disch := first | assumption | decide | omega) only [nI_lit, cT_lt, cF_lt, cT_le, cF_le, cT_eq, cF_eq, nF_le, mF_eq, mG_eq, mT_lt, eq_self, nI_clamp, nI_add, Nat.add_zero, nI_sub, s_i_ne, s_i_eq, s_i_2, s_l_1, s_l_ne, s_l_eq, s_p_ne, s_p_eq, s_p_2, s_q_1, s_q_ne, s_q_eq, u_ne, u_eq, v_ne, v_eq, w_ne, w_eq, jI_at_in, jL_at_in, false_or, or_false, true_or, or_true, true_and, and_true, false_and, and_false, not_true_eq_false, not_false_eq_true, ↓reduceIte, Option.bind_some, Option.map_some], by unfold ctell; simp (disch := first | assumption | decide | omega) only [nI_lit, cT_lt, cF_lt, cT_le, cF_le, cT_eq, cF_eq, nF_le, mF_eq, mG_eq, mT_lt, eq_self, nI_clamp, nI_add, Nat.add_zero, nI_sub, s_i_ne, s_i_eq, s_i_2, s_l_1, s_l_ne, s_l_eq, s_p_ne, s_p_eq, s_p_2, s_q_1, s_q_ne, s_q_eq, u_ne, u_eq, v_ne, v_eq, w_ne, w_eq, jI_at_in, jL_at_in, false_or, or_false, true_or, or_true, true_and, and_true, false_and, and_false, not_true_eq_false, not_false_eq_true, ↓reduceIte, Option.bind_some, Option.map_some], fun r h37 h33 h1 => ?_, rfl, by unfold rtell; simp (disch := first | assumption | decide | omega) only [nI_lit, cT_lt, cF_lt, cT_le, cF_le, cT_eq, cF_eq, nF_le, mF_eq, mG_eq, mT_lt, eq_self, nI_clamp, nI_add, Nat.add_zero, nI_sub, s_i_ne, s_i_eq, s_i_2, s_l_1, s_l_ne, s_l_eq, s_p_ne, s_p_eq, s_p_2, s_q_1, s_q_ne, s_q_eq, u_ne, u_eq, v_ne, v_eq, w_ne, w_eq, jI_at_in, jL_at_in, false_or, or_false, true_or, or_true, true_and, and_true, false_and, and_false, not_true_eq_false, not_false_eq_true, ↓reduceIte, Option.bind_some, Option.map_some], by unfold rtell; simp (disch := first | assumption | decide | omega) only [nI_lit, cT_lt, cF_lt, cT_le, cF_le, cT_eq, cF_eq, nF_le, mF_eq, mG_eq, mT_lt, eq_self, nI_clamp, nI_add, Nat.add_zero, nI_sub, s_i_ne, s_i_eq, s_i_2, s_l_1, s_l_ne, s_l_eq, s_p_ne, s_p_eq, s_p_2, s_q_1, s_q_ne, s_q_eq, u_ne, u_eq, v_ne, v_eq, w_ne, w_eq, jI_at_in, jL_at_in, false_or, or_false, true_or, or_true, true_and, and_true, false_and, and_false, not_true_eq_false, not_false_eq_true, ↓reduceIte, Option.bind_some, Option.map_some], hrt⟩
    unfold ctell
    rw [s_i_ne h1, s_i_ne h1, s_p_ne h33]
  by_cases hmp : m ≤ pN g
  rotate_left
  · rw [if_pos (nI_lt (by omega) (by omega))] at ccl
    refine ⟨_, _, ccl _ rfl, Or.inl ⟨hrf (0, _) ?_ (Or.inl rfl), Or.inr tno⟩⟩
    unfold p_r_checkName_54
    rw [if_neg (nI_in (show x < 3000 by omega) (by omega)), rtk, Option.bind_some]
    dsimp only
    rw [nI_clamp (show x < 2 ^ 31 by omega), h119, if_pos (nI_lt (by omega) (by omega))]
    exact n7
  rw [if_neg (nI_nlt hmp (by omega)), hlf hmp] at ccl
  have rleft := r_lfv (ρ := jx_i (jx_i ρ 124 x (nI w)) 123 x (nI g)) (x := x) (g := g) (n := pN g) (m := m) (b := bN g) (t1 := ty g m) (t2 := ty g (m + 1)) (by omega) d3 hmp d6 h119 rtk (by rw [rty _ (fun _ _ _ _ => rfl) (pN g) (by omega), if_pos (Nat.le_refl _)]) (fun h => ⟨(d9 m (by omega)).1, by rw [rty _ (fun _ _ _ _ => rfl) m (by omega), if_neg (by omega)]⟩) (fun h => ⟨(d9 (m + 1) (by omega)).1, by rw [rty _ (fun _ _ _ _ => rfl) (m + 1) (by omega), if_neg (by omega)]⟩)
  by_cases hl : lfv (pN g) m (bN g) (ty g m) (ty g (m + 1)) = nI w
  · rw [if_neg (by rw [hl]; simp)] at ccl
    have hloop := c_atoms (τ := jI_put 1201 τ 33 (nI (x + 1)) (nI g)) (m := m) (cs := cs) (wt := fun i => ty g i) (A := nI g) (B := nI m) (fun s => p_cTyp_checkCall_124_s s.1 s.2.1 s.2.2.1 s.2.2.2.1 (s.2.2.2.2)) (fun k σ hk hσ => by
      show p_cTyp_checkCall_124_s (nI g) (nI m) (nI (cs k + 1)) (nI k) σ = _
      have ety : v_cFun_typeOf (nI g) (nI k) σ = nI (ty g k) := by
        unfold v_cFun_typeOf
        rw [show nI g * (30 : Int32) = nI (g * 30) from nI_mul g 30, nI_add, jI_at_in (by omega) (by omega), show g * 30 + k = 30 * g + k by omega, hσ 57 (by decide), τ1n 57 (by decide)]
        exact (d9 k (by omega)).2.1
      unfold p_cTyp_checkCall_124_s
      rw [if_neg (nI_ge hk (by omega)), show v_cFau_isTold σ = 0 from if_pos (by rw [hσ 1 (by decide), τ1n 1 (by decide)]; exact h0), if_neg (by decide), ety, ← nI_succ]) (fun y σ => by
      show p_cTyp_checkCall_124_s (nI g) (nI m) y (nI m) σ = _
      unfold p_cTyp_checkCall_124_s
      rw [if_pos (nI_le (Nat.le_refl m) (by omega))]
      rfl) hm (fun j hj => ⟨(hcs j hj).1, by rw [τ1n 29 (by decide)]; exact (hcs j hj).2⟩)
    have h55' : (jx_i (jx_i ρ 124 x (nI w)) 123 x (nI g)).1 106 55 = nI q := by rw [σn 106 (by decide) (by decide)]; exact h55
    have hra := r_atoms (ρ := jx_i (jx_i (jx_i ρ 124 x (nI w)) 123 x (nI g)) 106 55 (nI (q + m))) (x := x) (q := q) (m := m) (cs := cs) (wt := fun i => ty g i) (by omega) hm hq (by simp (disch := first | assumption | decide | omega) only [c13, nI_lit, cT_lt, cF_lt, cT_le, cF_le, cT_eq, cF_eq, nF_le, mF_eq, mG_eq, mT_lt, eq_self, nI_clamp, nI_add, Nat.add_zero, nI_sub, s_i_ne, s_i_eq, s_i_2, s_l_1, s_l_ne, s_l_eq, s_p_ne, s_p_eq, s_p_2, s_q_1, s_q_ne, s_q_eq, u_ne, u_eq, v_ne, v_eq, w_ne, w_eq, jI_at_in, jL_at_in, false_or, or_false, true_or, or_true, true_and, and_true, false_and, and_false, not_true_eq_false, not_false_eq_true, ↓reduceIte, Option.bind_some, Option.map_some]) (fun hm0 => by simp (disch := first | assumption | decide | omega) only [c16 hm0, nI_lit, cT_lt, cF_lt, cT_le, cF_le, cT_eq, cF_eq, nF_le, mF_eq, mG_eq, mT_lt, eq_self, nI_clamp, nI_add, Nat.add_zero, nI_sub, s_i_ne, s_i_eq, s_i_2, s_l_1, s_l_ne, s_l_eq, s_p_ne, s_p_eq, s_p_2, s_q_1, s_q_ne, s_q_eq, u_ne, u_eq, v_ne, v_eq, w_ne, w_eq, jI_at_in, jL_at_in, false_or, or_false, true_or, or_true, true_and, and_true, false_and, and_false, not_true_eq_false, not_false_eq_true, ↓reduceIte, Option.bind_some, Option.map_some]) (fun i hi => by have := (hcs i hi).1; omega) (fun i hi => by simp (disch := first | assumption | decide | omega) only [hlk i hi, nI_lit, cT_lt, cF_lt, cT_le, cF_le, cT_eq, cF_eq, nF_le, mF_eq, mG_eq, mT_lt, eq_self, nI_clamp, nI_add, Nat.add_zero, nI_sub, s_i_ne, s_i_eq, s_i_2, s_l_1, s_l_ne, s_l_eq, s_p_ne, s_p_eq, s_p_2, s_q_1, s_q_ne, s_q_eq, u_ne, u_eq, v_ne, v_eq, w_ne, w_eq, jI_at_in, jL_at_in, false_or, or_false, true_or, or_true, true_and, and_true, false_and, and_false, not_true_eq_false, not_false_eq_true, ↓reduceIte, Option.bind_some, Option.map_some]) (fun σ hσ k hk => by
      rw [rty σ (fun r r1 r2 r3 => by rw [hσ r r1 r2, s_i_ne r3]) k (by omega), if_neg (by omega)])
    refine ⟨putN (jI_put 1201 τ 33 (nI (x + 1)) (nI g)) cs (fun i => ty g i) m, pushN (jx_i (jx_i (jx_i ρ 124 x (nI w)) 123 x (nI g)) 106 55 (nI (q + m))) cs (fun i => ty g i) (q + m) m, ccl _ ?_, Or.inr ⟨hrf _ ?_ (Or.inr rfl), g, hg, TSn (fun i hi => (hcs i hi).1) hlt τ1n rfl (fun j hj => by simp (disch := first | assumption | decide | omega) only [nI_lit, cT_lt, cF_lt, cT_le, cF_le, cT_eq, cF_eq, nF_le, mF_eq, mG_eq, mT_lt, eq_self, nI_clamp, nI_add, Nat.add_zero, nI_sub, s_i_ne, s_i_eq, s_i_2, s_l_1, s_l_ne, s_l_eq, s_p_ne, s_p_eq, s_p_2, s_q_1, s_q_ne, s_q_eq, u_ne, u_eq, v_ne, v_eq, w_ne, w_eq, jI_at_in, jL_at_in, false_or, or_false, true_or, or_true, true_and, and_true, false_and, and_false, not_true_eq_false, not_false_eq_true, ↓reduceIte, Option.bind_some, Option.map_some]) (fun h => (by cases h)) (fun gg hgg => by
      cases hgg
      exact ⟨by simp (disch := first | assumption | decide | omega) only [nI_lit, cT_lt, cF_lt, cT_le, cF_le, cT_eq, cF_eq, nF_le, mF_eq, mG_eq, mT_lt, eq_self, nI_clamp, nI_add, Nat.add_zero, nI_sub, s_i_ne, s_i_eq, s_i_2, s_l_1, s_l_ne, s_l_eq, s_p_ne, s_p_eq, s_p_2, s_q_1, s_q_ne, s_q_eq, u_ne, u_eq, v_ne, v_eq, w_ne, w_eq, jI_at_in, jL_at_in, false_or, or_false, true_or, or_true, true_and, and_true, false_and, and_false, not_true_eq_false, not_false_eq_true, ↓reduceIte, Option.bind_some, Option.map_some], by simp (disch := first | assumption | decide | omega) only [nI_lit, cT_lt, cF_lt, cT_le, cF_le, cT_eq, cF_eq, nF_le, mF_eq, mG_eq, mT_lt, eq_self, nI_clamp, nI_add, Nat.add_zero, nI_sub, s_i_ne, s_i_eq, s_i_2, s_l_1, s_l_ne, s_l_eq, s_p_ne, s_p_eq, s_p_2, s_q_1, s_q_ne, s_q_eq, u_ne, u_eq, v_ne, v_eq, w_ne, w_eq, jI_at_in, jL_at_in, false_or, or_false, true_or, or_true, true_and, and_true, false_and, and_false, not_true_eq_false, not_false_eq_true, ↓reduceIte, Option.bind_some, Option.map_some]⟩) (by simp (disch := first | assumption | decide | omega) only [nI_lit, cT_lt, cF_lt, cT_le, cF_le, cT_eq, cF_eq, nF_le, mF_eq, mG_eq, mT_lt, eq_self, nI_clamp, nI_add, Nat.add_zero, nI_sub, s_i_ne, s_i_eq, s_i_2, s_l_1, s_l_ne, s_l_eq, s_p_ne, s_p_eq, s_p_2, s_q_1, s_q_ne, s_q_eq, u_ne, u_eq, v_ne, v_eq, w_ne, w_eq, jI_at_in, jL_at_in, false_or, or_false, true_or, or_true, true_and, and_true, false_and, and_false, not_true_eq_false, not_false_eq_true, ↓reduceIte, Option.bind_some, Option.map_some]) (fun j hj => by simp (disch := first | assumption | decide | omega) only [nI_lit, cT_lt, cF_lt, cT_le, cF_le, cT_eq, cF_eq, nF_le, mF_eq, mG_eq, mT_lt, eq_self, nI_clamp, nI_add, Nat.add_zero, nI_sub, s_i_ne, s_i_eq, s_i_2, s_l_1, s_l_ne, s_l_eq, s_p_ne, s_p_eq, s_p_2, s_q_1, s_q_ne, s_q_eq, u_ne, u_eq, v_ne, v_eq, w_ne, w_eq, jI_at_in, jL_at_in, false_or, or_false, true_or, or_true, true_and, and_true, false_and, and_false, not_true_eq_false, not_false_eq_true, ↓reduceIte, Option.bind_some, Option.map_some]) (fun r hr => ?_) rfl (by simp (disch := first | assumption | decide | omega) only [nI_lit, cT_lt, cF_lt, cT_le, cF_le, cT_eq, cF_eq, nF_le, mF_eq, mG_eq, mT_lt, eq_self, nI_clamp, nI_add, Nat.add_zero, nI_sub, s_i_ne, s_i_eq, s_i_2, s_l_1, s_l_ne, s_l_eq, s_p_ne, s_p_eq, s_p_2, s_q_1, s_q_ne, s_q_eq, u_ne, u_eq, v_ne, v_eq, w_ne, w_eq, jI_at_in, jL_at_in, false_or, or_false, true_or, or_true, true_and, and_true, false_and, and_false, not_true_eq_false, not_false_eq_true, ↓reduceIte, Option.bind_some, Option.map_some]) (fun j hj => by simp (disch := first | assumption | decide | omega) only [nI_lit, cT_lt, cF_lt, cT_le, cF_le, cT_eq, cF_eq, nF_le, mF_eq, mG_eq, mT_lt, eq_self, nI_clamp, nI_add, Nat.add_zero, nI_sub, s_i_ne, s_i_eq, s_i_2, s_l_1, s_l_ne, s_l_eq, s_p_ne, s_p_eq, s_p_2, s_q_1, s_q_ne, s_q_eq, u_ne, u_eq, v_ne, v_eq, w_ne, w_eq, jI_at_in, jL_at_in, false_or, or_false, true_or, or_true, true_and, and_true, false_and, and_false, not_true_eq_false, not_false_eq_true, ↓reduceIte, Option.bind_some, Option.map_some]) (by simp (disch := first | assumption | decide | omega) only [nI_lit, cT_lt, cF_lt, cT_le, cF_le, cT_eq, cF_eq, nF_le, mF_eq, mG_eq, mT_lt, eq_self, nI_clamp, nI_add, Nat.add_zero, nI_sub, s_i_ne, s_i_eq, s_i_2, s_l_1, s_l_ne, s_l_eq, s_p_ne, s_p_eq, s_p_2, s_q_1, s_q_ne, s_q_eq, u_ne, u_eq, v_ne, v_eq, w_ne, w_eq, jI_at_in, jL_at_in, false_or, or_false, true_or, or_true, true_and, and_true, false_and, and_false, not_true_eq_false, not_false_eq_true, ↓reduceIte, Option.bind_some, Option.map_some]) (by simp (disch := first | assumption | decide | omega) only [nI_lit, cT_lt, cF_lt, cT_le, cF_le, cT_eq, cF_eq, nF_le, mF_eq, mG_eq, mT_lt, eq_self, nI_clamp, nI_add, Nat.add_zero, nI_sub, s_i_ne, s_i_eq, s_i_2, s_l_1, s_l_ne, s_l_eq, s_p_ne, s_p_eq, s_p_2, s_q_1, s_q_ne, s_q_eq, u_ne, u_eq, v_ne, v_eq, w_ne, w_eq, jI_at_in, jL_at_in, false_or, or_false, true_or, or_true, true_and, and_true, false_and, and_false, not_true_eq_false, not_false_eq_true, ↓reduceIte, Option.bind_some, Option.map_some]), hmp, hl⟩⟩
    · unfold p_cTyp_checkCall_105 p_cTyp_checkCall_124
      rw [q_require (by decide), Option.bind_some, jI_at_in (by omega) (by omega), τ1n 27 (by decide), c12]
      exact hloop
    · unfold p_r_checkName_54
      rw [if_neg (nI_in (show x < 3000 by omega) (by omega)), rtk, Option.bind_some]
      dsimp only
      rw [nI_clamp (show x < 2 ^ 31 by omega), h119, if_neg (nI_nlt hmp (by omega)), rleft, Option.bind_some]
      dsimp only
      rw [if_pos hl, if_neg n1, if_neg n1, h55', h119, nI_add]
      have e114 : (jx_i (jx_i ρ 124 x (nI w)) 123 x (nI g)).1 114 x = (jx_i (jx_i (jx_i ρ 124 x (nI w)) 123 x (nI g)) 106 55 (nI (q + m))).1 114 x := by rw [s_i_ne (k := 106) (by decide)]
      rw [e114]
      exact hra
    · simp only [List.mem_cons, List.not_mem_nil, or_false, not_or] at hr
      rw [s_i_ne hr.1, s_i_ne hr.2.1, s_i_ne hr.2.2.1]
  · rw [if_pos hl] at ccl
    refine ⟨_, _, ccl _ rfl, Or.inl ⟨hrf (0, _) ?_ (Or.inl rfl), Or.inr tno⟩⟩
    unfold p_r_checkName_54
    rw [if_neg (nI_in (show x < 3000 by omega) (by omega)), rtk, Option.bind_some]
    dsimp only
    rw [nI_clamp (show x < 2 ^ 31 by omega), h119, if_neg (nI_nlt hmp (by omega)), rleft, Option.bind_some]
    dsimp only
    rw [if_neg hl]
    exact n7
