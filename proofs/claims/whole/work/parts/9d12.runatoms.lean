/-! RUNS, 12: its atoms are put off, one after another, in both. -/
theorem RPF_q {ρ : jx_S} {v : Int32} : RPF ρ (jx_i ρ 106 101 v) := by
  refine ⟨fun r hr => ?_, fun j hj => ?_, fun _ _ => rfl⟩
  · simp only [List.mem_cons, List.not_mem_nil, or_false, not_or] at hr
    rw [s_i_ne hr.1]
  · simp only [List.mem_cons, List.not_mem_nil, or_false, not_or] at hj
    rw [s_i_eq, u_ne hj.2.2.2.2]
theorem PO_q {E : jEn} {G : jGh} {F : Nat} {nS pN bN lN' : Nat → Nat} {ty : Nat → Nat → Nat} {W : Nat → Nat} {D : Nat → jDs} {tk LO : Nat → Nat} {sl sp : Nat → Nat → Nat} {H : jHp} {φ q q' : Nat} {gd : Nat → Prop} {τ ρ : jx_S} (h : PO E G F nS pN bN lN' ty W D tk LO sl sp H φ gd q τ ρ) : PO E G F nS pN bN lN' ty W D tk LO sl sp H φ gd q' τ (jx_i ρ 106 101 (nI q')) := by
  obtain ⟨h1, h2, h3, h4, h5, ⟨h6, h7, h8, h9⟩, h10, h11⟩ := h
  refine ⟨RP_f h1 CPF_refl RPF_q, ?_, ?_, ?_, ?_, ⟨h6, by simp (disch := first | assumption | decide | omega) only [h7, nI_lit, cT_lt, cF_lt, cT_le, cF_le, cT_eq, cF_eq, nF_le, mF_eq, mG_eq, mT_lt, eq_self, nI_clamp, nI_add, Nat.add_zero, nI_sub, s_i_ne, s_i_eq, s_i_2, s_l_1, s_l_ne, s_l_eq, s_p_ne, s_p_eq, s_p_2, s_q_1, s_q_ne, s_q_eq, u_ne, u_eq, v_ne, v_eq, w_ne, w_eq, jI_at_in, jL_at_in, false_or, or_false, true_or, or_true, true_and, and_true, false_and, and_false, not_true_eq_false, not_false_eq_true, ↓reduceIte, Option.bind_some, Option.map_some], h8, by simp (disch := first | assumption | decide | omega) only [nI_lit, cT_lt, cF_lt, cT_le, cF_le, cT_eq, cF_eq, nF_le, mF_eq, mG_eq, mT_lt, eq_self, nI_clamp, nI_add, Nat.add_zero, nI_sub, s_i_ne, s_i_eq, s_i_2, s_l_1, s_l_ne, s_l_eq, s_p_ne, s_p_eq, s_p_2, s_q_1, s_q_ne, s_q_eq, u_ne, u_eq, v_ne, v_eq, w_ne, w_eq, jI_at_in, jL_at_in, false_or, or_false, true_or, or_true, true_and, and_true, false_and, and_false, not_true_eq_false, not_false_eq_true, ↓reduceIte, Option.bind_some, Option.map_some]⟩, h10, h11⟩
  · unfold RPu at h2 ⊢; simp (disch := first | assumption | decide | omega) only [nI_lit, cT_lt, cF_lt, cT_le, cF_le, cT_eq, cF_eq, nF_le, mF_eq, mG_eq, mT_lt, eq_self, nI_clamp, nI_add, Nat.add_zero, nI_sub, s_i_ne, s_i_eq, s_i_2, s_l_1, s_l_ne, s_l_eq, s_p_ne, s_p_eq, s_p_2, s_q_1, s_q_ne, s_q_eq, u_ne, u_eq, v_ne, v_eq, w_ne, w_eq, jI_at_in, jL_at_in, false_or, or_false, true_or, or_true, true_and, and_true, false_and, and_false, not_true_eq_false, not_false_eq_true, ↓reduceIte, Option.bind_some, Option.map_some]; exact h2
  · unfold RPa at h3 ⊢; simp (disch := first | assumption | decide | omega) only [nI_lit, cT_lt, cF_lt, cT_le, cF_le, cT_eq, cF_eq, nF_le, mF_eq, mG_eq, mT_lt, eq_self, nI_clamp, nI_add, Nat.add_zero, nI_sub, s_i_ne, s_i_eq, s_i_2, s_l_1, s_l_ne, s_l_eq, s_p_ne, s_p_eq, s_p_2, s_q_1, s_q_ne, s_q_eq, u_ne, u_eq, v_ne, v_eq, w_ne, w_eq, jI_at_in, jL_at_in, false_or, or_false, true_or, or_true, true_and, and_true, false_and, and_false, not_true_eq_false, not_false_eq_true, ↓reduceIte, Option.bind_some, Option.map_some]; exact h3
  · unfold RGo at h4 ⊢; simp (disch := first | assumption | decide | omega) only [nI_lit, cT_lt, cF_lt, cT_le, cF_le, cT_eq, cF_eq, nF_le, mF_eq, mG_eq, mT_lt, eq_self, nI_clamp, nI_add, Nat.add_zero, nI_sub, s_i_ne, s_i_eq, s_i_2, s_l_1, s_l_ne, s_l_eq, s_p_ne, s_p_eq, s_p_2, s_q_1, s_q_ne, s_q_eq, u_ne, u_eq, v_ne, v_eq, w_ne, w_eq, jI_at_in, jL_at_in, false_or, or_false, true_or, or_true, true_and, and_true, false_and, and_false, not_true_eq_false, not_false_eq_true, ↓reduceIte, Option.bind_some, Option.map_some]; exact h4
  · unfold RLo at h5 ⊢; simp (disch := first | assumption | decide | omega) only [nI_lit, cT_lt, cF_lt, cT_le, cF_le, cT_eq, cF_eq, nF_le, mF_eq, mG_eq, mT_lt, eq_self, nI_clamp, nI_add, Nat.add_zero, nI_sub, s_i_ne, s_i_eq, s_i_2, s_l_1, s_l_ne, s_l_eq, s_p_ne, s_p_eq, s_p_2, s_q_1, s_q_ne, s_q_eq, u_ne, u_eq, v_ne, v_eq, w_ne, w_eq, jI_at_in, jL_at_in, false_or, or_false, true_or, or_true, true_and, and_true, false_and, and_false, not_true_eq_false, not_false_eq_true, ↓reduceIte, Option.bind_some, Option.map_some]; exact h5
theorem CPF_got {τ : jx_S} {a : Int32} {v : Int64} : CPF τ (jL_put 6000 τ 99 a v) := ⟨fun _ _ => rfl, fun _ _ => rfl, fun _ _ => rfl, fun r hr => by
  simp only [List.mem_cons, List.not_mem_nil, or_false, not_or] at hr
  rw [s_q_ne hr.1]⟩
theorem RPu_got {H : jHp} {pd a : Nat} {an : aV} {v : Int64} {τ ρ : jx_S} (h : RPu H pd an τ ρ) : RPu H pd an (jL_put 6000 τ 99 (nI a) v) ρ := by
  unfold RPu at h ⊢; simp (disch := first | assumption | decide | omega) only [nI_lit, cT_lt, cF_lt, cT_le, cF_le, cT_eq, cF_eq, nF_le, mF_eq, mG_eq, mT_lt, eq_self, nI_clamp, nI_add, Nat.add_zero, nI_sub, s_i_ne, s_i_eq, s_i_2, s_l_1, s_l_ne, s_l_eq, s_p_ne, s_p_eq, s_p_2, s_q_1, s_q_ne, s_q_eq, u_ne, u_eq, v_ne, v_eq, w_ne, w_eq, jI_at_in, jL_at_in, false_or, or_false, true_or, or_true, true_and, and_true, false_and, and_false, not_true_eq_false, not_false_eq_true, ↓reduceIte, Option.bind_some, Option.map_some]; exact h
theorem PO_got {E : jEn} {G : jGh} {F : Nat} {nS pN bN lN' : Nat → Nat} {ty : Nat → Nat → Nat} {W : Nat → Nat} {D : Nat → jDs} {tk LO : Nat → Nat} {sl sp : Nat → Nat → Nat} {H : jHp} {φ q p i : Nat} {gd : Nat → Prop} {τ ρ : jx_S} {v : aV} (h : PO E G F nS pN bN lN' ty W D tk LO sl sp H φ gd q τ ρ) (hp : p < jGn H) (hi : i < jGs H p) (ha : jGf H p + i < jAn H) (hr : ρ.2 160 (jGf H p + i) = rV v) (hv : VT F pN bN ty W H (ty (jGg H p) (jGt H p - jGs H p + i)) v) : PO E G F nS pN bN lN' ty W D tk LO sl sp (hGot H (jGf H p + i) v) φ (fun x => gd x ∨ x = jGf H p + i) q (jL_put 6000 τ 99 (nI (jGf H p + i)) (cV v)) ρ := by
  obtain ⟨h1, h2, h3, ⟨g1, g2, g3⟩, h5, ⟨h6, h7, h8, h9⟩, h10, h11⟩ := h
  have hA6 := h10.2.2.2.2.2.1
  refine ⟨RP_f h1 CPF_got RPF_refl, RPu_got h2, ?_, ⟨g1, g2, fun a ha' hga => ?_⟩, ?_, ⟨h6, h7, by rw [CPF_f CPF_got]; exact h8, h9⟩, HI_got h10 hp hi (fun a q => q) hv, fun a q => ?_⟩
  · unfold RPa at h3 ⊢; simp (disch := first | assumption | decide | omega) only [nI_lit, cT_lt, cF_lt, cT_le, cF_le, cT_eq, cF_eq, nF_le, mF_eq, mG_eq, mT_lt, eq_self, nI_clamp, nI_add, Nat.add_zero, nI_sub, s_i_ne, s_i_eq, s_i_2, s_l_1, s_l_ne, s_l_eq, s_p_ne, s_p_eq, s_p_2, s_q_1, s_q_ne, s_q_eq, u_ne, u_eq, v_ne, v_eq, w_ne, w_eq, jI_at_in, jL_at_in, false_or, or_false, true_or, or_true, true_and, and_true, false_and, and_false, not_true_eq_false, not_false_eq_true, ↓reduceIte, Option.bind_some, Option.map_some]; exact h3
  · show (jL_put 6000 τ 99 (nI (jGf H p + i)) (cV v)).2 99 a = cV (if a = jGf H p + i then v else jAv H a) ∧ ρ.2 160 a = rV (if a = jGf H p + i then v else jAv H a)
    rw [s_q_eq, jL_up_in (by omega) (by omega)]
    by_cases z : a = jGf H p + i
    · rw [if_pos z, v_eq z, z]; exact ⟨rfl, hr⟩
    · rw [if_neg z, v_ne z]
      rcases hga with w | w
      · exact g3 a ha' w
      · exact absurd w z
  · unfold RLo at h5 ⊢; simp (disch := first | assumption | decide | omega) only [nI_lit, cT_lt, cF_lt, cT_le, cF_le, cT_eq, cF_eq, nF_le, mF_eq, mG_eq, mT_lt, eq_self, nI_clamp, nI_add, Nat.add_zero, nI_sub, s_i_ne, s_i_eq, s_i_2, s_l_1, s_l_ne, s_l_eq, s_p_ne, s_p_eq, s_p_2, s_q_1, s_q_ne, s_q_eq, u_ne, u_eq, v_ne, v_eq, w_ne, w_eq, jI_at_in, jL_at_in, false_or, or_false, true_or, or_true, true_and, and_true, false_and, and_false, not_true_eq_false, not_false_eq_true, ↓reduceIte, Option.bind_some, Option.map_some]; exact h5
  · rcases q with q | q
    · exact h11 a q
    · show a < jAn H
      omega
def OUT (E : jEn) (G : jGh) (F : Nat) (nS pN bN lN' : Nat → Nat) (ty : Nat → Nat → Nat) (W : Nat → Nat) (D : Nat → jDs) (tk LO : Nat → Nat) (sl sp : Nat → Nat → Nat) (H : jHp) (φ : Nat) (gd : Nat → Prop) (q x : Nat) (τ ρ : jx_S) (X : Option (Int64 × jx_S)) : Prop := (∃ a τ' ρ1, X = some (cV a, τ') ∧ p_r_putOne (nI x) (nI (jFb H φ)) ρ = some (rV a, ρ1) ∧ PSuc E G F nS pN bN lN' ty W D tk LO sl sp H φ gd q x τ ρ a τ' ρ1) ∨ ∃ v τ' y ρ1, X = some (v, τ') ∧ p_r_putOne (nI x) (nI (jFb H φ)) ρ = some (y, ρ1) ∧ PFul LO H φ gd x τ ρ τ' ρ1
theorem HQ_f {H H' : jHp} (h : HQ H H') : jFn H' = jFn H ∧ jFb H' = jFb H ∧ jFf H' = jFf H ∧ jLb H' = jLb H ∧ jLv H' = jLv H ∧ jCn H' = jCn H ∧ jFe H' = jFe H := by
  unfold jFn jFb jFf jLb jLv jCn jFe
  rw [h.1, h.2.1, h.2.2.1]
  exact ⟨rfl, rfl, rfl, rfl, rfl, rfl, rfl⟩
theorem HQ_got {H : jHp} {a : Nat} {v : aV} (h : jPn H ≤ 3000) : HQ H (hGot H a v) := ⟨rfl, rfl, rfl, fun _ _ => ⟨rfl, rfl⟩, fun i h1 h2 => by
  have h3 : i < jPn H := h2
  omega, ⟨Nat.le_refl _, Nat.le_refl _⟩, h⟩
theorem r12_step {u ρ1 : jx_S} {b q x to : Nat} {y : Int64} (hq : q < 3000) (h101 : u.1 106 101 = nI (q + 1)) (h87 : u.1 106 87 = 0) (h169 : u.1 169 q = nI x) (h170 : u.1 170 q = nI to) (hto : to < 6000) (hp : p_r_putOne (nI x) (nI b) (jx_i u 106 101 (nI q)) = some (y, ρ1)) (x3 : Int64) : r12 (nI b, x3, u) = some (.inl (nI b, x3, jx_l ρ1 160 to y)) := by
  show p_r_putOff_12_s (nI b) x3 u = _
  unfold p_r_putOff_12_s
  rw [h101, if_neg (nI_nle (by omega) (by omega)), h87, if_neg (fun z => z rfl), show nI (q + 1) - (1 : Int32) = nI q from nI_pred q, if_neg (nI_in hq (by omega)), if_neg (nI_in hq (by omega)), nI_clamp (show q < 2 ^ 31 by omega), h169, hp, Option.bind_some, h170, if_neg (nI_in hto (by omega)), nI_clamp (show to < 2 ^ 31 by omega)]
