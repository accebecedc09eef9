/-! TYPING, 12: one turn of both loops. -/
theorem TF_pop {a b q p : Nat} {τ ρ : jx_S} : TF a b q τ ρ τ (jx_i ρ 106 55 (nI p)) := by
  refine ⟨fun _ _ _ => rfl, rfl, fun _ _ => ⟨rfl, rfl⟩, fun _ _ => rfl, fun j hj => by simp (disch := first | assumption | decide | omega) only [nI_lit, cT_lt, cF_lt, cT_le, cF_le, cT_eq, cF_eq, nF_le, mF_eq, mG_eq, mT_lt, eq_self, nI_clamp, nI_add, Nat.add_zero, nI_sub, s_i_ne, s_i_eq, s_i_2, s_l_1, s_l_ne, s_l_eq, s_p_ne, s_p_eq, s_p_2, s_q_1, s_q_ne, s_q_eq, u_ne, u_eq, v_ne, v_eq, w_ne, w_eq, jI_at_in, jL_at_in, false_or, or_false, true_or, or_true, true_and, and_true, false_and, and_false, not_true_eq_false, not_false_eq_true, ↓reduceIte, Option.bind_some, Option.map_some], fun _ _ => ⟨by simp (disch := first | assumption | decide | omega) only [nI_lit, cT_lt, cF_lt, cT_le, cF_le, cT_eq, cF_eq, nF_le, mF_eq, mG_eq, mT_lt, eq_self, nI_clamp, nI_add, Nat.add_zero, nI_sub, s_i_ne, s_i_eq, s_i_2, s_l_1, s_l_ne, s_l_eq, s_p_ne, s_p_eq, s_p_2, s_q_1, s_q_ne, s_q_eq, u_ne, u_eq, v_ne, v_eq, w_ne, w_eq, jI_at_in, jL_at_in, false_or, or_false, true_or, or_true, true_and, and_true, false_and, and_false, not_true_eq_false, not_false_eq_true, ↓reduceIte, Option.bind_some, Option.map_some], by simp (disch := first | assumption | decide | omega) only [nI_lit, cT_lt, cF_lt, cT_le, cF_le, cT_eq, cF_eq, nF_le, mF_eq, mG_eq, mT_lt, eq_self, nI_clamp, nI_add, Nat.add_zero, nI_sub, s_i_ne, s_i_eq, s_i_2, s_l_1, s_l_ne, s_l_eq, s_p_ne, s_p_eq, s_p_2, s_q_1, s_q_ne, s_q_eq, u_ne, u_eq, v_ne, v_eq, w_ne, w_eq, jI_at_in, jL_at_in, false_or, or_false, true_or, or_true, true_and, and_true, false_and, and_false, not_true_eq_false, not_false_eq_true, ↓reduceIte, Option.bind_some, Option.map_some]⟩, fun _ _ => ⟨by simp (disch := first | assumption | decide | omega) only [nI_lit, cT_lt, cF_lt, cT_le, cF_le, cT_eq, cF_eq, nF_le, mF_eq, mG_eq, mT_lt, eq_self, nI_clamp, nI_add, Nat.add_zero, nI_sub, s_i_ne, s_i_eq, s_i_2, s_l_1, s_l_ne, s_l_eq, s_p_ne, s_p_eq, s_p_2, s_q_1, s_q_ne, s_q_eq, u_ne, u_eq, v_ne, v_eq, w_ne, w_eq, jI_at_in, jL_at_in, false_or, or_false, true_or, or_true, true_and, and_true, false_and, and_false, not_true_eq_false, not_false_eq_true, ↓reduceIte, Option.bind_some, Option.map_some], by simp (disch := first | assumption | decide | omega) only [nI_lit, cT_lt, cF_lt, cT_le, cF_le, cT_eq, cF_eq, nF_le, mF_eq, mG_eq, mT_lt, eq_self, nI_clamp, nI_add, Nat.add_zero, nI_sub, s_i_ne, s_i_eq, s_i_2, s_l_1, s_l_ne, s_l_eq, s_p_ne, s_p_eq, s_p_2, s_q_1, s_q_ne, s_q_eq, u_ne, u_eq, v_ne, v_eq, w_ne, w_eq, jI_at_in, jL_at_in, false_or, or_false, true_or, or_true, true_and, and_true, false_and, and_false, not_true_eq_false, not_false_eq_true, ↓reduceIte, Option.bind_some, Option.map_some]⟩, fun r hr => ?_, rfl⟩
  simp only [List.mem_cons, List.not_mem_nil, or_false, not_or] at hr
  exact s_i_ne hr.1
theorem ty_step {E : jEn} (hE : EnvOK E) {G : jGh} {F f : Nat} {pN bN lN' tk' : Nat → Nat} {ty : Nat → Nat → Nat} (hF : F ≤ 40) (hf : f < F) {τ ρ : jx_S} {x w q u o tk m lo s t d : Nat} {cs : Nat → Nat} (hP : TyP E F pN bN lN' tk' ty f τ ρ) (hx : x < 1200) (hA : NdS E G τ ρ x o tk m lo s cs) (hN : ∀ i, i < m → NdC E G τ ρ x o m lo s cs i) (hs1 : o = 1 → gV G x s → s < lN' f) (hs5 : o = 5 → s < lN' f) (hw : w < 14) (h37 : τ.1 37 (x + 1) = nI w) (h55 : ρ.1 106 55 = nI (q + 1)) (hq : q ≤ 1201) (h144 : ρ.1 144 q = nI x) (h145 : ρ.1 145 q = nI w) (hU : Up τ t d (x + 1)) (hd : d ≤ 1200) (ht : t ≤ 1200) (hu : u < 1200) :
    (∃ τ1 ρ1 nx, tyC (nI f, nI (x + 1), nI u, τ) = some (.inl (nI f, nx, nI (u + 1), τ1)) ∧ tyR (nI f, ρ) = some (.inr (.inr (0, ρ1))) ∧ TyX τ ρ τ1 ρ1) ∨
    (∃ τ1 ρ1 wt g, tyC (nI f, nI (x + 1), nI u, τ) = some (.inl (nI f, nI (if 0 < m then cs 0 + 1 else t), nI (u + 1), τ1)) ∧ tyR (nI f, ρ) = some (.inl (nI f, ρ1)) ∧ TSok τ (jx_i ρ 106 55 (nI q)) x w q m cs wt g τ1 ρ1 ∧ (∀ i, i < m → wt i < 14) ∧ okN F pN bN ty f o m s w wt (τ1.1 33 (x + 1)) (ρ.1 117 x) (ρ1.1 123 x) ∧ (g ≠ none → o = 1 ∧ ρ.1 117 x = -1)) := by
  have hT : TF 0 0 q τ ρ τ (jx_i ρ 106 55 (nI q)) := TF_pop
  obtain ⟨p1, p2, p3, p4, p5, p6, p7, p8, p9⟩ := TyP_keep hP hT
  obtain ⟨hcs, hlt', hmx⟩ := nd_children hx hN
  have e117 : (jx_i ρ 106 55 (nI q)).1 117 = ρ.1 117 := s_i_ne (by decide)
  have e55 : (jx_i ρ 106 55 (nI q)).1 106 55 = nI q := by simp (disch := first | assumption | decide | omega) only [nI_lit, cT_lt, cF_lt, cT_le, cF_le, cT_eq, cF_eq, nF_le, mF_eq, mG_eq, mT_lt, eq_self, nI_clamp, nI_add, Nat.add_zero, nI_sub, s_i_ne, s_i_eq, s_i_2, s_l_1, s_l_ne, s_l_eq, s_p_ne, s_p_eq, s_p_2, s_q_1, s_q_ne, s_q_eq, u_ne, u_eq, v_ne, v_eq, w_ne, w_eq, jI_at_in, jL_at_in, false_or, or_false, true_or, or_true, true_and, and_true, false_and, and_false, not_true_eq_false, not_false_eq_true, ↓reduceIte, Option.bind_some, Option.map_some]
  obtain ⟨τ1, ρ1, y1, y2⟩ := type_one (f := f) hE p1 p2 p3 hF hf p4 p5 hx (NdS_keep hT hA) (fun i hi => NdC_keep hT (hN i hi)) hs1 hs5 hw h37 p6 p7 e55 (by omega) p8
  rw [e117] at y2
  have c12 := hA.2.2.2.2.2.2.2.2.2.2.2.1
  have fol : ∀ τ1 : jx_S, τ1.1 27 = τ.1 27 → τ1.1 29 = τ.1 29 → τ1.1 31 = τ.1 31 → p_cTre_following (nI (x + 1)) τ1 = some (nI (if 0 < m then cs 0 + 1 else t), τ1) := fun τ1 z1 z2 z3 =>
    q_following hx (by rw [z1]; exact c12) (fun i hi => (hcs i hi).1) (Up_keep z2 z3 d (x + 1) hU) hd ht
  have cst : ∀ τ1 : jx_S, p_cTyp_checkNode (nI f) (nI (x + 1)) τ = some τ1 → τ1.1 27 = τ.1 27 → τ1.1 29 = τ.1 29 → τ1.1 31 = τ.1 31 → tyC (nI f, nI (x + 1), nI u, τ) = some (.inl (nI f, nI (if 0 < m then cs 0 + 1 else t), nI (u + 1), τ1)) := fun τ1 z0 z1 z2 z3 => by
    show p_cTyp_checkBody_36_s (nI f) (nI (x + 1)) (nI u) τ = _
    unfold p_cTyp_checkBody_36_s
    have ht0 : v_cFau_isTold τ = 0 := by unfold v_cFau_isTold; rw [if_pos p6]
    rw [if_neg (show ¬ (1200 : Int32) ≤ nI u from (nI_ge (by omega) (by omega) : ¬ nI 1200 ≤ nI u)), if_neg (nI_ne0 (by omega) (by omega)), ht0, if_neg (by decide), z0, Option.bind_some, fol τ1 z1 z2 z3, Option.bind_some, ← nI_succ]
  have e1 : nI (q + 1) - 1 = nI q := by rw [show (1 : Int32) = nI 1 from rfl, nI_sub (by omega)]; rfl
  have rst : tyR (nI f, ρ) = ((p_r_check (nI x) (nI w) (jx_i ρ 106 55 (nI q))).bind fun q4 => (if ¬ q4.1 = 0 then (some (.inl (nI f, q4.2))) else (Option.map Sum.inr (Option.map Sum.inr (some (((0 : Int32), q4.2))))))) := by
    show p_r_types_36_s (nI f) ρ = _
    unfold p_r_types_36_s
    rw [h55, e1, if_neg (show ¬ nI (q + 1) ≤ 0 from (nI_ge (by omega) (by omega) : ¬ nI (q + 1) ≤ nI 0)), if_neg (nI_in (show q < 3000 by omega) (by omega)), if_neg (nI_in (show q < 3000 by omega) (by omega)), nI_clamp (show q < 2 ^ 31 by omega), h144, h145]
  rcases y2 with ⟨y2, n, y3, y4⟩ | ⟨y2, wt, g, y3, y4, y5, y6⟩
  · refine Or.inl ⟨τ1, ρ1, _, cst τ1 y1 (y4.2.2.1 27 (by decide) (by decide) (by decide)) (y4.2.2.1 29 (by decide) (by decide) (by decide)) (y4.2.2.1 31 (by decide) (by decide) (by decide)), ?_, TyX_keep hT ⟨_, n, y3, y4⟩⟩
    rw [rst, y2]; rfl
  · refine Or.inr ⟨τ1, ρ1, wt, g, cst τ1 y1 (y3.1 27 (by decide) (by decide)) (y3.1 29 (by decide) (by decide)) (y3.1 31 (by decide) (by decide)), ?_, y3, y4, y5, y6⟩
    rw [rst, y2]; rfl
/-- a fault ends both loops -/
theorem ty_fault {f u N M : Nat} {s : Int32 × Int32 × Int32 × jx_S} {ρ τ1 ρ1 : jx_S} {nx : Int32} (h1 : tyC s = some (.inl (nI f, nx, nI u, τ1))) (h2 : tyR (nI f, ρ) = some (.inr (.inr (0, ρ1)))) (h3 : τ1.1 1 0 ≠ 0) : jx_loop (N + 2) tyC s = some τ1 ∧ jx_loop (M + 1) tyR (nI f, ρ) = some (.inr (0, ρ1)) := by
  refine ⟨?_, jx_loop_inr h2⟩
  rw [jx_loop_inl h1]
  refine jx_loop_inr (b := τ1) ?_
  show p_cTyp_checkBody_36_s (nI f) nx (nI u) τ1 = _
  unfold p_cTyp_checkBody_36_s
  rw [told_v h3]
  split
  · rfl
  · split
    · rfl
    · rw [if_pos (by decide)]; rfl
