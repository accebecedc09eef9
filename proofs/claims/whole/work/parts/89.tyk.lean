/-! TYPING, 6: one node that is no name, kind by kind. -/
theorem ty_sign {E : jEn} (hE : EnvOK E) {τ ρ : jx_S} {x w q o tk m f : Nat} {cs : Nat → Nat} (hC : EnvC E τ) (hR : EnvR E ρ) (hx : x < 1200) (c1 : ρ.1 112 x = nI o) (c2 : ρ.1 113 x = nI tk) (c3 : τ.1 25 (x + 1) = nI tk) (c4 : tk < eC E) (c7 : τ.1 23 (x + 1) = nI o) (c12 : τ.1 27 (x + 1) = nI (if 0 < m then cs 0 + 1 else 0)) (hcs : ∀ j, j < m → cs j < 1200 ∧ τ.1 29 (cs j + 1) = nI (if j + 1 < m then cs (j + 1) + 1 else 0)) (hlt : ∀ i j, i < j → j < m → cs i ≠ cs j) (hw : w < 14) (h37 : τ.1 37 (x + 1) = nI w) (h0 : τ.1 1 0 = 0) (h4 : ρ.1 106 4 = 0) (h55 : ρ.1 106 55 = nI q) (hq : q + 3 < 3000) (ho : (o = 2 ∧ m = 0) ∨ ((o = 19 ∨ (23 ≤ o ∧ o ≤ 27)) ∧ m = 2 ∧ ρ.1 114 x = nI (cs 0) ∧ ρ.1 115 x = nI (cs 1))) :
    ∃ τ' ρ', p_cTyp_checkNode (nI f) (nI (x + 1)) τ = some τ' ∧ ((p_r_check (nI x) (nI w) ρ = some (0, ρ') ∧ TSno τ ρ (eP E tk) 7 τ' ρ') ∨ (p_r_check (nI x) (nI w) ρ = some (1, ρ') ∧ TSok τ ρ x w q m cs (fun _ => 0) none τ' ρ' ∧ w = 0)) := by
  have hE1 := hE.1
  have k23 : jI_at 1201 (τ.1 23) (nI (x + 1)) = nI o := by rw [jI_at_in (by omega) (by omega)]; exact c7
  have k37 : jI_at 1201 (τ.1 37) (nI (x + 1)) = nI w := by rw [jI_at_in (by omega) (by omega)]; exact h37
  have rq := q_require_no hE hC h0 hx c3 c4
  have ct27 : (ctell τ 7 (nI (eP E tk))).1 27 = τ.1 27 := by unfold ctell; rw [s_i_ne (by decide), s_i_ne (by decide)]
  have ct29 : (ctell τ 7 (nI (eP E tk))).1 29 = τ.1 29 := by unfold ctell; rw [s_i_ne (by decide), s_i_ne (by decide)]
  obtain ⟨n7, n8, n9, n10⟩ := r_no7 (ρ := ρ) (x := x) (w := w) (P := eP E tk) h4
  have hm3 : m ≤ 3 := by omega
  have hgo := r_check_go hR hE1 hx hw c1 c2 c4 (by omega) (by omega)
  rw [if_pos (show o = 2 ∨ o = 19 ∨ (23 ≤ o ∧ o ≤ 27) by omega)] at hgo
  have hcl : ∀ r, p_cTyp_checkNode_269 (nI (x + 1)) (nI w) τ = r → p_cTyp_checkNode (nI f) (nI (x + 1)) τ = r := by
    intro r e
    unfold p_cTyp_checkNode
    rw [k23, k37, if_neg (show ¬ nI o = (5 : Int32) from fun q => absurd ((nI_eq (b := 5) (by omega) (by omega)).mp q) (by omega)), if_neg (show ¬ nI o = (7 : Int32) from fun q => absurd ((nI_eq (b := 7) (by omega) (by omega)).mp q) (by omega)), if_neg (show ¬ nI o = (10 : Int32) from fun q => absurd ((nI_eq (b := 10) (by omega) (by omega)).mp q) (by omega)), if_neg (show ¬ nI o = (13 : Int32) from fun q => absurd ((nI_eq (b := 13) (by omega) (by omega)).mp q) (by omega)), if_neg (show ¬ nI o = (14 : Int32) from fun q => absurd ((nI_eq (b := 14) (by omega) (by omega)).mp q) (by omega)), if_neg (show ¬ nI o = (15 : Int32) from fun q => absurd ((nI_eq (b := 15) (by omega) (by omega)).mp q) (by omega)), if_neg (show ¬ nI o = (28 : Int32) from fun q => absurd ((nI_eq (b := 28) (by omega) (by omega)).mp q) (by omega)), if_neg (show ¬ nI o = (29 : Int32) from fun q => absurd ((nI_eq (b := 29) (by omega) (by omega)).mp q) (by omega))]
    exact e
  by_cases hw0 : w = 0
  · subst hw0
    rw [if_pos rfl] at hgo
    obtain ⟨τ', t1, t2, t3, t4, t5, t6, t7⟩ := q_wantParts (τ := τ) (k := x) (m := m) (cs := cs) hx (by omega) c12 hcs hlt (nI 0) (nI 0) (nI 0)
    have e1 : p_cTyp_checkNode_269 (nI (x + 1)) (nI 0) τ = some τ' := by
      unfold p_cTyp_checkNode_269 p_cTyp_checkNode_280
      rw [if_neg (by decide), q_require (by decide), Option.bind_some]
      show ((p_cTyp_wantParts (nI (x + 1)) (nI 0) (nI 0) (nI 0) τ).bind _) = _
      rw [t1, Option.bind_some]
    rcases ho with ⟨h2, hm⟩ | ⟨h2, hm, r4, r5⟩
    · subst hm h2
      refine ⟨τ', _, hcl _ e1, Or.inr ⟨?_, TS0 h55 t2 t3 t7 _, rfl⟩⟩
      rw [hgo]
      unfold p_r_check_201
      simp (disch := first | assumption | decide | omega) only [c1, nI_lit, cT_lt, cF_lt, cT_le, cF_le, cT_eq, cF_eq, nF_le, mF_eq, mG_eq, mT_lt, eq_self, nI_clamp, nI_add, Nat.add_zero, nI_sub, s_i_ne, s_i_eq, s_i_2, s_l_1, s_l_ne, s_l_eq, s_p_ne, s_p_eq, s_p_2, s_q_1, s_q_ne, s_q_eq, u_ne, u_eq, v_ne, v_eq, w_ne, w_eq, jI_at_in, jL_at_in, false_or, or_false, true_or, or_true, true_and, and_true, false_and, and_false, not_true_eq_false, not_false_eq_true, ↓reduceIte, Option.bind_some, Option.map_some]
    · subst hm
      refine ⟨τ', _, hcl _ e1, Or.inr ⟨?_, TS2 (wt := fun _ => 0) t2 t3 (t4 (by omega)) (t5 (by omega)) t7, rfl⟩⟩
      rw [hgo]
      unfold p_r_check_201 p_r_check_414 p_r_want TB2
      simp (disch := first | assumption | decide | omega) only [c1, r4, r5, h55, nI_lit, cT_lt, cF_lt, cT_le, cF_le, cT_eq, cF_eq, nF_le, mF_eq, mG_eq, mT_lt, eq_self, nI_clamp, nI_add, Nat.add_zero, nI_sub, s_i_ne, s_i_eq, s_i_2, s_l_1, s_l_ne, s_l_eq, s_p_ne, s_p_eq, s_p_2, s_q_1, s_q_ne, s_q_eq, u_ne, u_eq, v_ne, v_eq, w_ne, w_eq, jI_at_in, jL_at_in, false_or, or_false, true_or, or_true, true_and, and_true, false_and, and_false, not_true_eq_false, not_false_eq_true, ↓reduceIte, Option.bind_some, Option.map_some]
  · rw [if_neg hw0] at hgo
    obtain ⟨τ', t1, t2, t3, _⟩ := q_wantParts (τ := ctell τ 7 (nI (eP E tk))) (k := x) (m := m) (cs := cs) hx (by omega) (by rw [ct27]; exact c12) (fun j hj => ⟨(hcs j hj).1, by rw [ct29]; exact (hcs j hj).2⟩) hlt (nI 0) (nI 0) (nI 0)
    refine ⟨τ', _, hcl _ ?_, Or.inl ⟨hgo.trans n7, fr37 t2 t3 n8 n9 n10⟩⟩
    unfold p_cTyp_checkNode_269 p_cTyp_checkNode_280
    rw [if_pos (nI_ne0 (by omega) (by omega)), rq, Option.bind_some]
    show ((p_cTyp_wantParts (nI (x + 1)) (nI 0) (nI 0) (nI 0) _).bind _) = _
    rw [t1, Option.bind_some]
theorem ty_list {E : jEn} (hE : EnvOK E) {τ ρ : jx_S} {x w q o tk m f : Nat} {cs : Nat → Nat} (hC : EnvC E τ) (hR : EnvR E ρ) (hx : x < 1200) (c1 : ρ.1 112 x = nI o) (c2 : ρ.1 113 x = nI tk) (c3 : τ.1 25 (x + 1) = nI tk) (c4 : tk < eC E) (c7 : τ.1 23 (x + 1) = nI o) (c12 : τ.1 27 (x + 1) = nI (if 0 < m then cs 0 + 1 else 0)) (hcs : ∀ j, j < m → cs j < 1200 ∧ τ.1 29 (cs j + 1) = nI (if j + 1 < m then cs (j + 1) + 1 else 0)) (hlt : ∀ i j, i < j → j < m → cs i ≠ cs j) (hw : w < 14) (h37 : τ.1 37 (x + 1) = nI w) (h0 : τ.1 1 0 = 0) (h4 : ρ.1 106 4 = 0) (h55 : ρ.1 106 55 = nI q) (hq : q + 3 < 3000) (ho : (o = 13 ∧ m = 0) ∨ (o = 14 ∧ m = 2 ∧ ρ.1 114 x = nI (cs 0) ∧ ρ.1 115 x = nI (cs 1))) :
    ∃ τ' ρ', p_cTyp_checkNode (nI f) (nI (x + 1)) τ = some τ' ∧ ((p_r_check (nI x) (nI w) ρ = some (0, ρ') ∧ TSno τ ρ (eP E tk) 7 τ' ρ') ∨ (p_r_check (nI x) (nI w) ρ = some (1, ρ') ∧ TSok τ ρ x w q m cs (fun i => if i = 0 then 0 else 1) none τ' ρ' ∧ w = 1)) := by
  have hE1 := hE.1
  have k23 : jI_at 1201 (τ.1 23) (nI (x + 1)) = nI o := by rw [jI_at_in (by omega) (by omega)]; exact c7
  have k37 : jI_at 1201 (τ.1 37) (nI (x + 1)) = nI w := by rw [jI_at_in (by omega) (by omega)]; exact h37
  have rq := q_require_no hE hC h0 hx c3 c4
  have ct27 : (ctell τ 7 (nI (eP E tk))).1 27 = τ.1 27 := by unfold ctell; rw [s_i_ne (by decide), s_i_ne (by decide)]
  have ct29 : (ctell τ 7 (nI (eP E tk))).1 29 = τ.1 29 := by unfold ctell; rw [s_i_ne (by decide), s_i_ne (by decide)]
  obtain ⟨n7, n8, n9, n10⟩ := r_no7 (ρ := ρ) (x := x) (w := w) (P := eP E tk) h4
  have hm3 : m ≤ 3 := by omega
  have hgo := r_check_go hR hE1 hx hw c1 c2 c4 (by omega) (by omega)
  rw [if_neg (show ¬ (o = 2 ∨ o = 19 ∨ (23 ≤ o ∧ o ≤ 27)) by omega), if_pos (show o = 13 ∨ o = 14 by omega)] at hgo
  have hcl : ∀ r, p_cTyp_checkNode_243 (nI (x + 1)) (nI w) τ = r → p_cTyp_checkNode (nI f) (nI (x + 1)) τ = r := by
    intro r e
    unfold p_cTyp_checkNode
    rw [k23, k37, if_neg (show ¬ nI o = (5 : Int32) from fun q => absurd ((nI_eq (b := 5) (by omega) (by omega)).mp q) (by omega)), if_neg (show ¬ nI o = (7 : Int32) from fun q => absurd ((nI_eq (b := 7) (by omega) (by omega)).mp q) (by omega)), if_neg (show ¬ nI o = (10 : Int32) from fun q => absurd ((nI_eq (b := 10) (by omega) (by omega)).mp q) (by omega))]
    rcases ho with ⟨h2, _⟩ | ⟨h2, _⟩
    · rw [h2, if_pos (show nI 13 = 13 from rfl)]; exact e
    · rw [h2, if_neg (by decide), if_pos (show nI 14 = 14 from rfl)]; exact e
  by_cases hw0 : w = 1
  · subst hw0
    rw [if_pos rfl] at hgo
    obtain ⟨τ', t1, t2, t3, t4, t5, t6, t7⟩ := q_wantParts (τ := τ) (k := x) (m := m) (cs := cs) hx (by omega) c12 hcs hlt (nI 0) (nI 1) (nI 1)
    have e1 : p_cTyp_checkNode_243 (nI (x + 1)) (nI 1) τ = some τ' := by
      unfold p_cTyp_checkNode_243 p_cTyp_checkNode_255
      rw [if_neg (by decide), q_require (by decide), Option.bind_some]
      show ((p_cTyp_wantParts (nI (x + 1)) (nI 0) (nI 1) (nI 1) τ).bind _) = _
      rw [t1, Option.bind_some]
    rcases ho with ⟨h2, hm⟩ | ⟨h2, hm, r4, r5⟩
    · subst hm h2
      refine ⟨τ', _, hcl _ e1, Or.inr ⟨?_, TS0 h55 t2 t3 t7 _, rfl⟩⟩
      rw [hgo]
      unfold p_r_check_201
      simp (disch := first | assumption | decide | omega) only [c1, nI_lit, cT_lt, cF_lt, cT_le, cF_le, cT_eq, cF_eq, nF_le, mF_eq, mG_eq, mT_lt, eq_self, nI_clamp, nI_add, Nat.add_zero, nI_sub, s_i_ne, s_i_eq, s_i_2, s_l_1, s_l_ne, s_l_eq, s_p_ne, s_p_eq, s_p_2, s_q_1, s_q_ne, s_q_eq, u_ne, u_eq, v_ne, v_eq, w_ne, w_eq, jI_at_in, jL_at_in, false_or, or_false, true_or, or_true, true_and, and_true, false_and, and_false, not_true_eq_false, not_false_eq_true, ↓reduceIte, Option.bind_some, Option.map_some]
    · subst hm h2
      refine ⟨τ', _, hcl _ e1, Or.inr ⟨?_, TS2 (wt := fun i => if i = 0 then 0 else 1) t2 t3 (t4 (by omega)) (t5 (by omega)) t7, rfl⟩⟩
      rw [hgo]
      show _ = some (1, TB2 ρ x 1 q (cs 0) 0 (cs 1) 1)
      unfold p_r_check_201 p_r_want TB2
      simp (disch := first | assumption | decide | omega) only [c1, r4, r5, h55, nI_lit, cT_lt, cF_lt, cT_le, cF_le, cT_eq, cF_eq, nF_le, mF_eq, mG_eq, mT_lt, eq_self, nI_clamp, nI_add, Nat.add_zero, nI_sub, s_i_ne, s_i_eq, s_i_2, s_l_1, s_l_ne, s_l_eq, s_p_ne, s_p_eq, s_p_2, s_q_1, s_q_ne, s_q_eq, u_ne, u_eq, v_ne, v_eq, w_ne, w_eq, jI_at_in, jL_at_in, false_or, or_false, true_or, or_true, true_and, and_true, false_and, and_false, not_true_eq_false, not_false_eq_true, ↓reduceIte, Option.bind_some, Option.map_some]
  · rw [if_neg hw0] at hgo
    obtain ⟨τ', t1, t2, t3, _⟩ := q_wantParts (τ := ctell τ 7 (nI (eP E tk))) (k := x) (m := m) (cs := cs) hx (by omega) (by rw [ct27]; exact c12) (fun j hj => ⟨(hcs j hj).1, by rw [ct29]; exact (hcs j hj).2⟩) hlt (nI 0) (nI 1) (nI 1)
    refine ⟨τ', _, hcl _ ?_, Or.inl ⟨hgo.trans n7, fr37 t2 t3 n8 n9 n10⟩⟩
    unfold p_cTyp_checkNode_243 p_cTyp_checkNode_255
    rw [if_pos (show ¬ nI w = (1 : Int32) from fun q => hw0 ((nI_eq (b := 1) (by omega) (by omega)).mp q)), rq, Option.bind_some]
    show ((p_cTyp_wantParts (nI (x + 1)) (nI 0) (nI 1) (nI 1) _).bind _) = _
    rw [t1, Option.bind_some]
theorem ty_err {E : jEn} (hE : EnvOK E) {τ ρ : jx_S} {x w q o tk m f : Nat} {cs : Nat → Nat} (hC : EnvC E τ) (hR : EnvR E ρ) (hx : x < 1200) (c1 : ρ.1 112 x = nI o) (c2 : ρ.1 113 x = nI tk) (c3 : τ.1 25 (x + 1) = nI tk) (c4 : tk < eC E) (c7 : τ.1 23 (x + 1) = nI o) (c12 : τ.1 27 (x + 1) = nI (if 0 < m then cs 0 + 1 else 0)) (hcs : ∀ j, j < m → cs j < 1200 ∧ τ.1 29 (cs j + 1) = nI (if j + 1 < m then cs (j + 1) + 1 else 0)) (hlt : ∀ i j, i < j → j < m → cs i ≠ cs j) (hw : w < 14) (h37 : τ.1 37 (x + 1) = nI w) (h0 : τ.1 1 0 = 0) (h4 : ρ.1 106 4 = 0) (h55 : ρ.1 106 55 = nI q) (hq : q + 3 < 3000) (ho : o = 15 ∧ m = 0) :
    ∃ τ' ρ', p_cTyp_checkNode (nI f) (nI (x + 1)) τ = some τ' ∧ ((p_r_check (nI x) (nI w) ρ = some (0, ρ') ∧ TSno τ ρ (eP E tk) 7 τ' ρ') ∨ (p_r_check (nI x) (nI w) ρ = some (1, ρ') ∧ TSok τ ρ x w q m cs (fun _ => 0) none τ' ρ' ∧ w < 2)) := by
  have hE1 := hE.1
  have k23 : jI_at 1201 (τ.1 23) (nI (x + 1)) = nI o := by rw [jI_at_in (by omega) (by omega)]; exact c7
  have k37 : jI_at 1201 (τ.1 37) (nI (x + 1)) = nI w := by rw [jI_at_in (by omega) (by omega)]; exact h37
  have rq := q_require_no hE hC h0 hx c3 c4
  have ct27 : (ctell τ 7 (nI (eP E tk))).1 27 = τ.1 27 := by unfold ctell; rw [s_i_ne (by decide), s_i_ne (by decide)]
  have ct29 : (ctell τ 7 (nI (eP E tk))).1 29 = τ.1 29 := by unfold ctell; rw [s_i_ne (by decide), s_i_ne (by decide)]
  obtain ⟨n7, n8, n9, n10⟩ := r_no7 (ρ := ρ) (x := x) (w := w) (P := eP E tk) h4
  obtain ⟨h2, hm⟩ := ho
  subst h2 hm
  have hgo := r_check_go hR hE1 hx hw c1 c2 c4 (by omega) (by omega)
  rw [if_neg (show ¬ (15 = 2 ∨ 15 = 19 ∨ (23 ≤ 15 ∧ 15 ≤ 27)) by omega), if_neg (show ¬ (15 = 13 ∨ 15 = 14) by omega)] at hgo
  have hcl : ∀ r, p_cTyp_require (nI (x + 1)) (if w < 2 then 1 else 0) τ = some r → p_cTyp_checkNode (nI f) (nI (x + 1)) τ = some r := by
    intro r e
    unfold p_cTyp_checkNode
    rw [k23, k37, c_isBase τ hw, if_neg (by decide), if_neg (by decide), if_neg (by decide), if_neg (by decide), if_neg (by decide), if_pos (show nI 15 = 15 from rfl), e, Option.bind_some]
  by_cases hw0 : w < 2
  · rw [if_pos hw0] at hgo
    refine ⟨τ, _, hcl _ (by rw [if_pos hw0]; exact q_require (by decide)), Or.inr ⟨?_, TS0 h55 (fun _ _ => rfl) rfl (fun _ _ _ => rfl) _, hw0⟩⟩
    rw [hgo]
    unfold p_r_check_201
    simp (disch := first | assumption | decide | omega) only [c1, nI_lit, cT_lt, cF_lt, cT_le, cF_le, cT_eq, cF_eq, nF_le, mF_eq, mG_eq, mT_lt, eq_self, nI_clamp, nI_add, Nat.add_zero, nI_sub, s_i_ne, s_i_eq, s_i_2, s_l_1, s_l_ne, s_l_eq, s_p_ne, s_p_eq, s_p_2, s_q_1, s_q_ne, s_q_eq, u_ne, u_eq, v_ne, v_eq, w_ne, w_eq, jI_at_in, jL_at_in, false_or, or_false, true_or, or_true, true_and, and_true, false_and, and_false, not_true_eq_false, not_false_eq_true, ↓reduceIte, Option.bind_some, Option.map_some]
  · rw [if_neg hw0] at hgo
    exact ⟨_, _, hcl _ (by rw [if_neg hw0]; exact rq), Or.inl ⟨hgo.trans n7, fr37 (fun _ _ => rfl) rfl n8 n9 n10⟩⟩
theorem ty_if {E : jEn} (hE : EnvOK E) {τ ρ : jx_S} {x w q o tk m f : Nat} {cs : Nat → Nat} (hC : EnvC E τ) (hR : EnvR E ρ) (hx : x < 1200) (c1 : ρ.1 112 x = nI o) (c2 : ρ.1 113 x = nI tk) (c3 : τ.1 25 (x + 1) = nI tk) (c4 : tk < eC E) (c7 : τ.1 23 (x + 1) = nI o) (c12 : τ.1 27 (x + 1) = nI (if 0 < m then cs 0 + 1 else 0)) (hcs : ∀ j, j < m → cs j < 1200 ∧ τ.1 29 (cs j + 1) = nI (if j + 1 < m then cs (j + 1) + 1 else 0)) (hlt : ∀ i j, i < j → j < m → cs i ≠ cs j) (hw : w < 14) (h37 : τ.1 37 (x + 1) = nI w) (h0 : τ.1 1 0 = 0) (h4 : ρ.1 106 4 = 0) (h55 : ρ.1 106 55 = nI q) (hq : q + 3 < 3000) (ho : o = 7 ∧ m = 3 ∧ ρ.1 114 x = nI (cs 0) ∧ ρ.1 115 x = nI (cs 1) ∧ ρ.1 116 x = nI (cs 2)) :
    ∃ τ' ρ', p_cTyp_checkNode (nI f) (nI (x + 1)) τ = some τ' ∧ ((p_r_check (nI x) (nI w) ρ = some (0, ρ') ∧ TSno τ ρ (eP E tk) 7 τ' ρ') ∨ (p_r_check (nI x) (nI w) ρ = some (1, ρ') ∧ TSok τ ρ x w q m cs (fun i => if i = 0 then 0 else w) none τ' ρ' ∧ w < 2)) := by
  have hE1 := hE.1
  have k23 : jI_at 1201 (τ.1 23) (nI (x + 1)) = nI o := by rw [jI_at_in (by omega) (by omega)]; exact c7
  have k37 : jI_at 1201 (τ.1 37) (nI (x + 1)) = nI w := by rw [jI_at_in (by omega) (by omega)]; exact h37
  have rq := q_require_no hE hC h0 hx c3 c4
  have ct27 : (ctell τ 7 (nI (eP E tk))).1 27 = τ.1 27 := by unfold ctell; rw [s_i_ne (by decide), s_i_ne (by decide)]
  have ct29 : (ctell τ 7 (nI (eP E tk))).1 29 = τ.1 29 := by unfold ctell; rw [s_i_ne (by decide), s_i_ne (by decide)]
  obtain ⟨n7, n8, n9, n10⟩ := r_no7 (ρ := ρ) (x := x) (w := w) (P := eP E tk) h4
  obtain ⟨h2, hm, r4, r5, r6⟩ := ho
  subst h2 hm
  have hgo := r_check_go hR hE1 hx hw c1 c2 c4 (by omega) (by omega)
  rw [if_neg (show ¬ (7 = 2 ∨ 7 = 19 ∨ (23 ≤ 7 ∧ 7 ≤ 27)) by omega), if_neg (show ¬ (7 = 13 ∨ 7 = 14) by omega)] at hgo
  have hcl : ∀ σ r, p_cTyp_require (nI (x + 1)) (if w < 2 then 1 else 0) τ = some σ → p_cTyp_wantParts (nI (x + 1)) (nI 0) (nI w) (nI w) σ = some r → p_cTyp_checkNode (nI f) (nI (x + 1)) τ = some r := by
    intro σ r e e2
    unfold p_cTyp_checkNode
    rw [k23, k37, c_isBase τ hw, e]
    rw [if_neg (by decide), if_pos (show nI 7 = 7 from rfl), Option.bind_some]
    show ((p_cTyp_wantParts (nI (x + 1)) (nI 0) (nI w) (nI w) σ).bind _) = _
    rw [e2, Option.bind_some]
  by_cases hw0 : w < 2
  · rw [if_pos hw0] at hgo
    obtain ⟨τ', t1, t2, t3, t4, t5, t6, t7⟩ := q_wantParts (τ := τ) (k := x) (m := 3) (cs := cs) hx (by omega) c12 hcs hlt (nI 0) (nI w) (nI w)
    refine ⟨τ', _, hcl _ _ (by rw [if_pos hw0]; exact q_require (by decide)) t1, Or.inr ⟨?_, TS3 (wt := fun i => if i = 0 then 0 else w) t2 t3 (t4 (by omega)) (t5 (by omega)) (t6 (by omega)) t7, hw0⟩⟩
    rw [hgo]
    show _ = some (1, TB3 ρ x w q (cs 0) 0 (cs 1) w (cs 2) w)
    unfold p_r_check_201 p_r_check_335 p_r_check_380 p_r_want TB3
    simp (disch := first | assumption | decide | omega) only [c1, r4, r5, r6, h55, nI_lit, cT_lt, cF_lt, cT_le, cF_le, cT_eq, cF_eq, nF_le, mF_eq, mG_eq, mT_lt, eq_self, nI_clamp, nI_add, Nat.add_zero, nI_sub, s_i_ne, s_i_eq, s_i_2, s_l_1, s_l_ne, s_l_eq, s_p_ne, s_p_eq, s_p_2, s_q_1, s_q_ne, s_q_eq, u_ne, u_eq, v_ne, v_eq, w_ne, w_eq, jI_at_in, jL_at_in, false_or, or_false, true_or, or_true, true_and, and_true, false_and, and_false, not_true_eq_false, not_false_eq_true, ↓reduceIte, Option.bind_some, Option.map_some]
  · rw [if_neg hw0] at hgo
    obtain ⟨τ', t1, t2, t3, _⟩ := q_wantParts (τ := ctell τ 7 (nI (eP E tk))) (k := x) (m := 3) (cs := cs) hx (by omega) (by rw [ct27]; exact c12) (fun j hj => ⟨(hcs j hj).1, by rw [ct29]; exact (hcs j hj).2⟩) hlt (nI 0) (nI w) (nI w)
    exact ⟨τ', _, hcl _ _ (by rw [if_neg hw0]; exact rq) t1, Or.inl ⟨hgo.trans n7, fr37 t2 t3 n8 n9 n10⟩⟩
theorem ty_case {E : jEn} (hE : EnvOK E) {τ ρ : jx_S} {x w q o tk m f : Nat} {cs : Nat → Nat} (hC : EnvC E τ) (hR : EnvR E ρ) (hx : x < 1200) (c1 : ρ.1 112 x = nI o) (c2 : ρ.1 113 x = nI tk) (c3 : τ.1 25 (x + 1) = nI tk) (c4 : tk < eC E) (c7 : τ.1 23 (x + 1) = nI o) (c12 : τ.1 27 (x + 1) = nI (if 0 < m then cs 0 + 1 else 0)) (hcs : ∀ j, j < m → cs j < 1200 ∧ τ.1 29 (cs j + 1) = nI (if j + 1 < m then cs (j + 1) + 1 else 0)) (hlt : ∀ i j, i < j → j < m → cs i ≠ cs j) (hw : w < 14) (h37 : τ.1 37 (x + 1) = nI w) (h0 : τ.1 1 0 = 0) (h4 : ρ.1 106 4 = 0) (h55 : ρ.1 106 55 = nI q) (hq : q + 3 < 3000) (ho : o = 10 ∧ m = 3 ∧ ρ.1 114 x = nI (cs 0) ∧ ρ.1 115 x = nI (cs 1) ∧ ρ.1 116 x = nI (cs 2)) :
    ∃ τ' ρ', p_cTyp_checkNode (nI f) (nI (x + 1)) τ = some τ' ∧ ((p_r_check (nI x) (nI w) ρ = some (0, ρ') ∧ TSno τ ρ (eP E tk) 7 τ' ρ') ∨ (p_r_check (nI x) (nI w) ρ = some (1, ρ') ∧ TSok τ ρ x w q m cs (fun i => if i = 0 then 1 else w) none τ' ρ' ∧ w < 2)) := by
  have hE1 := hE.1
  have k23 : jI_at 1201 (τ.1 23) (nI (x + 1)) = nI o := by rw [jI_at_in (by omega) (by omega)]; exact c7
  have k37 : jI_at 1201 (τ.1 37) (nI (x + 1)) = nI w := by rw [jI_at_in (by omega) (by omega)]; exact h37
  have rq := q_require_no hE hC h0 hx c3 c4
  have ct27 : (ctell τ 7 (nI (eP E tk))).1 27 = τ.1 27 := by unfold ctell; rw [s_i_ne (by decide), s_i_ne (by decide)]
  have ct29 : (ctell τ 7 (nI (eP E tk))).1 29 = τ.1 29 := by unfold ctell; rw [s_i_ne (by decide), s_i_ne (by decide)]
  obtain ⟨n7, n8, n9, n10⟩ := r_no7 (ρ := ρ) (x := x) (w := w) (P := eP E tk) h4
  obtain ⟨h2, hm, r4, r5, r6⟩ := ho
  subst h2 hm
  have hgo := r_check_go hR hE1 hx hw c1 c2 c4 (by omega) (by omega)
  rw [if_neg (show ¬ (10 = 2 ∨ 10 = 19 ∨ (23 ≤ 10 ∧ 10 ≤ 27)) by omega), if_neg (show ¬ (10 = 13 ∨ 10 = 14) by omega)] at hgo
  have hcl : ∀ σ r, p_cTyp_require (nI (x + 1)) (if w < 2 then 1 else 0) τ = some σ → p_cTyp_wantParts (nI (x + 1)) (nI 1) (nI w) (nI w) σ = some r → p_cTyp_checkNode (nI f) (nI (x + 1)) τ = some r := by
    intro σ r e e2
    unfold p_cTyp_checkNode
    rw [k23, k37, c_isBase τ hw, e]
    rw [if_neg (by decide), if_neg (by decide), if_pos (show nI 10 = 10 from rfl), Option.bind_some]
    show ((p_cTyp_wantParts (nI (x + 1)) (nI 1) (nI w) (nI w) σ).bind _) = _
    rw [e2, Option.bind_some]
  by_cases hw0 : w < 2
  · rw [if_pos hw0] at hgo
    obtain ⟨τ', t1, t2, t3, t4, t5, t6, t7⟩ := q_wantParts (τ := τ) (k := x) (m := 3) (cs := cs) hx (by omega) c12 hcs hlt (nI 1) (nI w) (nI w)
    refine ⟨τ', _, hcl _ _ (by rw [if_pos hw0]; exact q_require (by decide)) t1, Or.inr ⟨?_, TS3 (wt := fun i => if i = 0 then 1 else w) t2 t3 (t4 (by omega)) (t5 (by omega)) (t6 (by omega)) t7, hw0⟩⟩
    rw [hgo]
    show _ = some (1, TB3 ρ x w q (cs 0) 1 (cs 1) w (cs 2) w)
    unfold p_r_check_201 p_r_check_335 p_r_check_380 p_r_want TB3
    simp (disch := first | assumption | decide | omega) only [c1, r4, r5, r6, h55, nI_lit, cT_lt, cF_lt, cT_le, cF_le, cT_eq, cF_eq, nF_le, mF_eq, mG_eq, mT_lt, eq_self, nI_clamp, nI_add, Nat.add_zero, nI_sub, s_i_ne, s_i_eq, s_i_2, s_l_1, s_l_ne, s_l_eq, s_p_ne, s_p_eq, s_p_2, s_q_1, s_q_ne, s_q_eq, u_ne, u_eq, v_ne, v_eq, w_ne, w_eq, jI_at_in, jL_at_in, false_or, or_false, true_or, or_true, true_and, and_true, false_and, and_false, not_true_eq_false, not_false_eq_true, ↓reduceIte, Option.bind_some, Option.map_some]
  · rw [if_neg hw0] at hgo
    obtain ⟨τ', t1, t2, t3, _⟩ := q_wantParts (τ := ctell τ 7 (nI (eP E tk))) (k := x) (m := 3) (cs := cs) hx (by omega) (by rw [ct27]; exact c12) (fun j hj => ⟨(hcs j hj).1, by rw [ct29]; exact (hcs j hj).2⟩) hlt (nI 1) (nI w) (nI w)
    exact ⟨τ', _, hcl _ _ (by rw [if_neg hw0]; exact rq) t1, Or.inl ⟨hgo.trans n7, fr37 t2 t3 n8 n9 n10⟩⟩
theorem ty_let {E : jEn} (hE : EnvOK E) {τ ρ : jx_S} {x w q o tk m f : Nat} {cs : Nat → Nat} (hC : EnvC E τ) (hR : EnvR E ρ) (hx : x < 1200) (c1 : ρ.1 112 x = nI o) (c2 : ρ.1 113 x = nI tk) (c3 : τ.1 25 (x + 1) = nI tk) (c4 : tk < eC E) (c7 : τ.1 23 (x + 1) = nI o) (c12 : τ.1 27 (x + 1) = nI (if 0 < m then cs 0 + 1 else 0)) (hcs : ∀ j, j < m → cs j < 1200 ∧ τ.1 29 (cs j + 1) = nI (if j + 1 < m then cs (j + 1) + 1 else 0)) (hlt : ∀ i j, i < j → j < m → cs i ≠ cs j) (hw : w < 14) (h37 : τ.1 37 (x + 1) = nI w) (h0 : τ.1 1 0 = 0) (h4 : ρ.1 106 4 = 0) (h55 : ρ.1 106 55 = nI q) (hq : q + 3 < 3000) {s tys : Nat} (ho : o = 5 ∧ m = 2 ∧ ρ.1 114 x = nI (cs 0) ∧ ρ.1 115 x = nI (cs 1)) (hs30 : s < 30) (hf : f < 40) (r117 : ρ.1 117 x = nI s) (c33 : τ.1 33 (x + 1) = nI s) (t57 : τ.1 57 (30 * f + s) = nI tys) (r137 : ρ.1 137 (30 * f + s) = nI tys) (h56 : ρ.1 106 56 = nI f) :
    ∃ τ' ρ', p_cTyp_checkNode (nI f) (nI (x + 1)) τ = some τ' ∧ ((p_r_check (nI x) (nI w) ρ = some (0, ρ') ∧ TSno τ ρ (eP E tk) 7 τ' ρ') ∨ (p_r_check (nI x) (nI w) ρ = some (1, ρ') ∧ TSok τ ρ x w q m cs (fun i => if i = 0 then tys else w) none τ' ρ' ∧ w < 2)) := by
  have hE1 := hE.1
  have k23 : jI_at 1201 (τ.1 23) (nI (x + 1)) = nI o := by rw [jI_at_in (by omega) (by omega)]; exact c7
  have k37 : jI_at 1201 (τ.1 37) (nI (x + 1)) = nI w := by rw [jI_at_in (by omega) (by omega)]; exact h37
  have rq := q_require_no hE hC h0 hx c3 c4
  have ct27 : (ctell τ 7 (nI (eP E tk))).1 27 = τ.1 27 := by unfold ctell; rw [s_i_ne (by decide), s_i_ne (by decide)]
  have ct29 : (ctell τ 7 (nI (eP E tk))).1 29 = τ.1 29 := by unfold ctell; rw [s_i_ne (by decide), s_i_ne (by decide)]
  obtain ⟨n7, n8, n9, n10⟩ := r_no7 (ρ := ρ) (x := x) (w := w) (P := eP E tk) h4
  obtain ⟨h2, hm, r4, r5⟩ := ho
  subst h2 hm
  have hgo := r_check_go hR hE1 hx hw c1 c2 c4 (by omega) (by omega)
  rw [if_neg (show ¬ (5 = 2 ∨ 5 = 19 ∨ (23 ≤ 5 ∧ 5 ≤ 27)) by omega), if_neg (show ¬ (5 = 13 ∨ 5 = 14) by omega)] at hgo
  have hcl : ∀ σ r, σ.1 33 = τ.1 33 → σ.1 57 = τ.1 57 → p_cTyp_require (nI (x + 1)) (if w < 2 then 1 else 0) τ = some σ → p_cTyp_wantParts (nI (x + 1)) (nI tys) (nI w) (nI w) σ = some r → p_cTyp_checkNode (nI f) (nI (x + 1)) τ = some r := by
    intro σ r e33 e57 e e2
    have ety : v_cFun_typeOf (nI f) (jI_at 1201 (σ.1 33) (nI (x + 1))) σ = nI tys := by
      unfold v_cFun_typeOf
      rw [e33, jI_at_in (by omega) (by omega), c33, show nI f * (30 : Int32) = nI (f * 30) from nI_mul f 30, nI_add, jI_at_in (by omega) (by omega), e57, show f * 30 + s = 30 * f + s by omega]
      exact t57
    unfold p_cTyp_checkNode
    rw [k23, k37, c_isBase τ hw, e, if_pos (show nI 5 = 5 from rfl), Option.bind_some, ety, e2, Option.bind_some]
  by_cases hw0 : w < 2
  · rw [if_pos hw0] at hgo
    obtain ⟨τ', t1, t2, t3, t4, t5, t6, t7⟩ := q_wantParts (τ := τ) (k := x) (m := 2) (cs := cs) hx (by omega) c12 hcs hlt (nI tys) (nI w) (nI w)
    refine ⟨τ', _, hcl _ _ rfl rfl (by rw [if_pos hw0]; exact q_require (by decide)) t1, Or.inr ⟨?_, TS2 (wt := fun i => if i = 0 then tys else w) t2 t3 (t4 (by omega)) (t5 (by omega)) t7, hw0⟩⟩
    rw [hgo]
    show _ = some (1, TB2 ρ x w q (cs 0) tys (cs 1) w)
    unfold p_r_check_201 p_r_want TB2
    simp (disch := first | assumption | decide | omega) only [c1, r4, r5, r117, h55, h56, nI_mul, r137, nI_lit, cT_lt, cF_lt, cT_le, cF_le, cT_eq, cF_eq, nF_le, mF_eq, mG_eq, mT_lt, eq_self, nI_clamp, nI_add, Nat.add_zero, nI_sub, s_i_ne, s_i_eq, s_i_2, s_l_1, s_l_ne, s_l_eq, s_p_ne, s_p_eq, s_p_2, s_q_1, s_q_ne, s_q_eq, u_ne, u_eq, v_ne, v_eq, w_ne, w_eq, jI_at_in, jL_at_in, false_or, or_false, true_or, or_true, true_and, and_true, false_and, and_false, not_true_eq_false, not_false_eq_true, ↓reduceIte, Option.bind_some, Option.map_some]
  · rw [if_neg hw0] at hgo
    obtain ⟨τ', t1, t2, t3, _⟩ := q_wantParts (τ := ctell τ 7 (nI (eP E tk))) (k := x) (m := 2) (cs := cs) hx (by omega) (by rw [ct27]; exact c12) (fun j hj => ⟨(hcs j hj).1, by rw [ct29]; exact (hcs j hj).2⟩) hlt (nI tys) (nI w) (nI w)
    exact ⟨τ', _, hcl _ _ (by unfold ctell; rw [s_i_ne (by decide), s_i_ne (by decide)]) (by unfold ctell; rw [s_i_ne (by decide), s_i_ne (by decide)]) (by rw [if_neg hw0]; exact rq) t1, Or.inl ⟨hgo.trans n7, fr37 t2 t3 n8 n9 n10⟩⟩
