/-! READER, 12: an atom. -/
def RecOK (E : jEn) (f nf dep : Nat) (rec : Int32 → jx_S → Option (Int32 × jx_S)) : Prop := (∀ x σ, σ.1 1 0 ≠ 0 → rec x σ = some (0, σ)) ∧ ∀ a n l sc G t dn τ ρ, PR E f nf a n l sc G (t + 1) dn dep τ ρ → ρ.1 138 t = nI 1 → t + 14 * (31 - dep) ≤ 3900 → SimS E f nf a n l sc G t dn dep τ ρ 0 10 (rec (nI dep) τ)
theorem Done_wrap {E : jEn} {f nf a n l : Nat} {sc : List Nat} {G : jGh} {t dn dep : Nat} {τ ρ : jx_S} {a1 t1 tp1 tp dep1 : Nat} {τ1 ρ1 : jx_S} {a' n' l' : Nat} {G' : jGh} {τ' ρ' : jx_S} {a2 : Nat} {τ2 ρ2 : jx_S} (hD : DoneT E f nf a1 n l sc G t1 tp1 dn dep1 τ1 ρ1 a' n' l' G' τ' ρ') (hK : KP f n l sc.length t dn τ ρ τ1 ρ1) (h130 : ρ1.1 130 f = ρ.1 130 f) (ha : a ≤ a1) (ht : t ≤ t1) (hP : PR E f nf a2 n' l' sc G' tp (dn + 1) dep τ2 ρ2) (hK2 : KP f n' l' sc.length t (dn + 1) τ' ρ' τ2 ρ2) (h130' : ρ2.1 130 f = ρ'.1 130 f) (ha2 : a' ≤ a2) (hdd : dep ≤ dep1 := by omega) : DoneT E f nf a n l sc G t tp dn dep τ ρ a2 n' l' G' τ2 ρ2 := by
  obtain ⟨d1, d2, d3, d4, d5, d6, d7, d8, d9, d10⟩ := hD
  refine ⟨by omega, d2, by omega, d4, hP, ?_, ?_, Rt_keep d8 hK2 (by omega) rfl, d9, ?_⟩
  · exact KP_trans (KP_trans hK d6 (Nat.le_refl _) (Nat.le_refl _) (Nat.le_refl _) ht (Nat.le_refl _)) hK2 (by omega) d4 (Nat.le_refl _) (Nat.le_refl _) (by omega)
  · rw [hK2.2.2.1 141 (by decide) dn (by omega)]; exact d7
  · rw [h130', d10, h130, letc_congr (g := ρ'.1 112) (g' := ρ2.1 112) (n' - n) (fun j hj => hK2.2.1 112 (by decide) _ (by omega))]
theorem SimO_wrap {E : jEn} {f nf a n l : Nat} {sc : List Nat} {G : jGh} {t dn dep : Nat} {τ ρ : jx_S} {a1 : Nat} {τ1 ρ1 : jx_S} {k0 sl sl1 fb fb1 : Nat} {C : Option (Int32 × jx_S)} (hS : SimO E f nf a1 n l sc G t dn dep τ1 ρ1 sl1 fb1 C) (hRT : RT f k0 ρ ρ1) (hK : KP f n l sc.length t dn τ ρ τ1 ρ1) (h130 : ρ1.1 130 f = ρ.1 130 f) (ha : a ≤ a1) (hs : k0 + sl ≤ sl1 + 20 * (a1 - a)) (hf : k0 + 20 * (eC E - a1) + fb1 ≤ 20 * (eC E - a) + fb) : SimO E f nf a n l sc G t dn dep τ ρ sl fb C := by
  obtain ⟨v, τ', k, ρ', h1, h2, h3⟩ := hS
  refine ⟨v, τ', k0 + k, ρ', h1, RT_trans hRT h2, ?_⟩
  rcases h3 with ⟨h3, h4⟩ | ⟨a', n', l', G', h3, h4, h5⟩
  · exact Or.inl ⟨by omega, h4⟩
  · have := h5.1
    exact Or.inr ⟨a', n', l', G', by omega, h4, Done_wrap h5 hK h130 ha (Nat.le_refl _) h5.2.2.2.2.1 KP_refl rfl (Nat.le_refl _)⟩
theorem SimS_wrap {E : jEn} {f nf a n l : Nat} {sc : List Nat} {G : jGh} {t dn dep : Nat} {τ ρ : jx_S} {a1 : Nat} {τ1 ρ1 : jx_S} {k0 sl sl1 fb fb1 : Nat} {C : Option (Int32 × jx_S)} (hS : SimS E f nf a1 n l sc G t dn dep τ1 ρ1 sl1 fb1 C) (hRT : RT f k0 ρ ρ1) (hK : KP f n l sc.length t dn τ ρ τ1 ρ1) (h130 : ρ1.1 130 f = ρ.1 130 f) (ha : a ≤ a1) (hs : k0 + sl ≤ sl1 + 20 * (a1 - a)) (hf : k0 + 20 * (eC E - a1) + fb1 ≤ 20 * (eC E - a) + fb) : SimS E f nf a n l sc G t dn dep τ ρ sl fb C := by
  obtain ⟨v, τ', k, ρ', h1, h2, h3⟩ := hS
  refine ⟨v, τ', k0 + k, ρ', h1, RT_trans hRT h2, ?_⟩
  rcases h3 with ⟨h3, h4⟩ | ⟨a', n', l', G', h3, h4, h5⟩
  · exact Or.inl ⟨by omega, h4⟩
  · have := h5.1
    exact Or.inr ⟨a', n', l', G', by omega, h4, Done_wrap h5 hK h130 ha (Nat.le_refl _) h5.2.2.2.2.1 KP_refl rfl (Nat.le_refl _)⟩
theorem jx_i_comm {σ : jx_S} {k j k' j' : Nat} {v v' : Int32} (h : ¬ (k' = k ∧ j' = j)) : jx_i (jx_i σ k j v) k' j' v' = jx_i (jx_i σ k' j' v') k j v := by
  refine Prod.ext ?_ rfl
  funext a b
  show (if a = k' ∧ b = j' then v' else if a = k ∧ b = j then v else σ.1 a b) = (if a = k ∧ b = j then v else if a = k' ∧ b = j' then v' else σ.1 a b)
  by_cases h1 : a = k' ∧ b = j'
  · rw [if_pos h1, if_neg (fun q => h ⟨h1.1.symm.trans q.1, h1.2.symm.trans q.2⟩), if_pos h1]
  · rw [if_neg h1]
    by_cases h2 : a = k ∧ b = j
    · rw [if_pos h2, if_pos h2]
    · rw [if_neg h2, if_neg h2, if_neg h1]
theorem jx_i_out {σ : jx_S} {k' j' : Nat} {v v' : Int32} (h : k' ≠ 106) : jx_i (jx_i σ 106 40 v) k' j' v' = jx_i (jx_i σ k' j' v') 106 40 v := jx_i_comm (fun q => h q.1)
theorem jx_i_out2 {σ : jx_S} {j' : Nat} {v v' : Int32} (h : j' ≠ 40) : jx_i (jx_i σ 106 40 v) 106 j' v' = jx_i (jx_i σ 106 j' v') 106 40 v := jx_i_comm (fun q => h q.2)
theorem ro16 (x y : Int32) (σ : jx_S) : p_r_readOne (nI 16) x y σ = p_r_atom σ := by
  unfold p_r_readOne p_r_readMore
  simp (disch := first | assumption | decide | omega) only [ob_id, nI_lit, cT_lt, cF_lt, cT_le, cF_le, cT_eq, cF_eq, nF_le, mF_eq, mG_eq, mT_lt, eq_self, nI_clamp, nI_add, Nat.add_zero, nI_sub, s_i_ne, s_i_eq, s_i_2, s_l_1, s_l_ne, s_l_eq, s_p_ne, s_p_eq, s_p_2, s_q_1, s_q_ne, s_q_eq, u_ne, u_eq, v_ne, v_eq, w_ne, w_eq, jI_at_in, jL_at_in, false_or, or_false, true_or, or_true, true_and, and_true, false_and, and_false, not_true_eq_false, not_false_eq_true, ↓reduceIte, Option.bind_some, Option.map_some]
theorem ro17 (x y : Int32) (σ : jx_S) : p_r_readOne (nI 17) x y σ = p_r_expect (nI 17) σ := by
  unfold p_r_readOne p_r_readMore
  simp (disch := first | assumption | decide | omega) only [ob_id, nI_lit, cT_lt, cF_lt, cT_le, cF_le, cT_eq, cF_eq, nF_le, mF_eq, mG_eq, mT_lt, eq_self, nI_clamp, nI_add, Nat.add_zero, nI_sub, s_i_ne, s_i_eq, s_i_2, s_l_1, s_l_ne, s_l_eq, s_p_ne, s_p_eq, s_p_2, s_q_1, s_q_ne, s_q_eq, u_ne, u_eq, v_ne, v_eq, w_ne, w_eq, jI_at_in, jL_at_in, false_or, or_false, true_or, or_true, true_and, and_true, false_and, and_false, not_true_eq_false, not_false_eq_true, ↓reduceIte, Option.bind_some, Option.map_some]
theorem sim_atom_p {E : jEn} {f nf a n l : Nat} {sc : List Nat} {G : jGh} {t dn dep : Nat} {τ ρ : jx_S} {rec : Int32 → jx_S → Option (Int32 × jx_S)} {x1 : Int32} (hrec : RecOK E f nf dep rec) (hx1 : x1 + 1 = nI dep) (h : PR E f nf a n l sc G (t + 1) dn dep τ ρ) (h138 : ρ.1 138 t = nI 16) (ht : t + 1 + 14 * (31 - dep) ≤ 3900) (c16 : eK E a = 16) : SimS E f nf a n l sc G t dn dep τ ρ 15 2 (p_cRea_readAtom rec x1 τ) := by
  have hb := PR_bounds h
  obtain ⟨hP, hK, h130⟩ := PR_pop h
  have hB := h.2.2.1
  have one : ∀ ρ1, p_r_atom (jx_i ρ 106 45 (nI t)) = some ρ1 → RT f 1 ρ ρ1 := fun ρ1 q => RT_one hB.2.2.1 hB.2.2.2.2.2.2.2.2.1 (by omega) (by rw [h138, ro16]; exact q)
  obtain ⟨kc, k1, k2, k3, k4, k5, k6⟩ := kind_ne hP
  have hB0 := hP.2.2.1
  have g6 := hP.2.1.2.2.1
  obtain ⟨p1, p2, p3, p4, p5, p6⟩ := pass_ok hP 16 c16 (by omega)
  obtain ⟨l1, l2, l3, l4, l5, l6, l7⟩ := PR_ltr (nI 17) (nI 0) (nI 0) p5 (by omega)
  obtain ⟨m1, m2, m3, m4, m5, m6, m7⟩ := PR_ltr (nI 1) (nI 0) (nI 0) l2 (by omega)
  have hstep := one _ (by
    unfold p_r_atom
    simp (disch := first | assumption | decide | omega) only [k3, k2, c16, l1, m1, nI_lit, cT_lt, cF_lt, cT_le, cF_le, cT_eq, cF_eq, nF_le, mF_eq, mG_eq, mT_lt, eq_self, nI_clamp, nI_add, Nat.add_zero, nI_sub, s_i_ne, s_i_eq, s_i_2, s_l_1, s_l_ne, s_l_eq, s_p_ne, s_p_eq, s_p_2, s_q_1, s_q_ne, s_q_eq, u_ne, u_eq, v_ne, v_eq, w_ne, w_eq, jI_at_in, jL_at_in, false_or, or_false, true_or, or_true, true_and, and_true, false_and, and_false, not_true_eq_false, not_false_eq_true, ↓reduceIte, Option.bind_some, Option.map_some]
    exact rfl)
  obtain ⟨v, τ', k, ρ', e1, e2, e3⟩ := hrec.2 _ _ _ _ _ (t + 1) _ _ _ m2 m5 (by omega)
  have hcl : ∀ τ2, p_cRea_pass (nI 17) τ' = some τ2 → p_cRea_readAtom rec x1 τ = some (v, τ2) := by
    intro τ2 q
    unfold p_cRea_readAtom
    rw [p1, if_neg (by decide), if_neg (by decide), if_neg (by decide), if_neg (by decide), if_pos (show nI 16 = 16 from rfl)]
    show ((p_cRea_pass (nI 16) τ).bind _) = _
    rw [p4, Option.bind_some, hx1, e1, Option.bind_some]
    show ((p_cRea_pass (nI 17) τ').bind _) = _
    rw [q, Option.bind_some]
  rcases e3 with ⟨e3, t', s, x, e4⟩ | ⟨a', n', l', G', e3, e4, e5⟩
  · exact ⟨v, τ', 1 + k, ρ', hcl τ' (told_pass e4.1 (by decide)), RT_trans hstep e2, Or.inl ⟨by omega, t', s, x, e4⟩⟩
  · have hPR := e5.2.2.2.2.1
    have hb2 := PR_bounds hPR
    obtain ⟨hP2, hK2, h1302⟩ := PR_pop hPR
    have q138 : ρ'.1 138 t = nI 17 := by rw [e5.2.2.2.2.2.1.2.2.2.1 138 (by decide) t (by omega), m3.2.2.2.1 138 (by decide) t (by omega)]; exact l5
    obtain ⟨τ2, ρ2, r1, r2, r3⟩ := pass2 17 (by omega) (by omega) (Or.inr hP2)
    have hB2 := hPR.2.2.1
    have hstep2 : RT f 1 ρ' ρ2 := RT_one hB2.2.2.1 hB2.2.2.2.2.2.2.2.2.1 (by omega) (by rw [q138, ro17]; exact r2)
    have := e5.1
    refine ⟨v, τ2, 1 + k + 1, ρ2, hcl τ2 r1, RT_trans (RT_trans hstep e2) hstep2, ?_⟩
    rcases r3 with ⟨x, r3⟩ | ⟨r3, r4, r5, r6, r7⟩
    · exact Or.inl ⟨by omega, _, _, x, r3⟩
    · refine Or.inr ⟨a' + 1, n', l', G', by omega, e4, ?_⟩
      refine Done_wrap e5 ?_ ?_ (Nat.le_succ a) (Nat.le_succ t) r5 (KP_trans hK2 r6 (Nat.le_refl _) (Nat.le_refl _) (Nat.le_refl _) (Nat.le_refl _) (Nat.le_refl _)) (by rw [r7, h1302]) (by omega)
      · exact KP_trans (KP_trans (KP_trans hK p6 (Nat.le_refl _) (Nat.le_refl _) (Nat.le_refl _) (Nat.le_refl _) (Nat.le_refl _)) l3 (Nat.le_refl _) (Nat.le_refl _) (Nat.le_refl _) (Nat.le_refl _) (Nat.le_refl _)) m3 (Nat.le_refl _) (Nat.le_refl _) (Nat.le_refl _) (by omega) (Nat.le_refl _)
      · rw [m4, l4]; simp (disch := first | assumption | decide | omega) only [nI_lit, cT_lt, cF_lt, cT_le, cF_le, cT_eq, cF_eq, nF_le, mF_eq, mG_eq, mT_lt, eq_self, nI_clamp, nI_add, Nat.add_zero, nI_sub, s_i_ne, s_i_eq, s_i_2, s_l_1, s_l_ne, s_l_eq, s_p_ne, s_p_eq, s_p_2, s_q_1, s_q_ne, s_q_eq, u_ne, u_eq, v_ne, v_eq, w_ne, w_eq, jI_at_in, jL_at_in, false_or, or_false, true_or, or_true, true_and, and_true, false_and, and_false, not_true_eq_false, not_false_eq_true, ↓reduceIte, Option.bind_some, Option.map_some]
theorem atom_name {E : jEn} {f nf a n l : Nat} {sc : List Nat} {G : jGh} {t dn dep : Nat} {τ ρ : jx_S} (hP : PR E f nf a n l sc G t dn dep τ ρ) (c1 : eK E a = 1) :
    ∃ τ' ρ' G', ((p_cRea_pass (nI 1) τ).bind fun q3 => (p_cRea_addName (nI a) 0 0 q3).bind fun q4 => some (q4.1, q4.2)) = some (nI (n + 1), τ') ∧ ((p_r_nameNode (nI a) (nI 0) ρ).bind fun q4 => ((p_r_give q4.1 q4.2).bind fun q5 => (some ((jx_i q5 106 40 ((q5.1 106 40) + (1 : Int32))))))) = some ρ' ∧ Done E f nf a n l sc G t dn dep τ ρ (a + 1) (n + 1) l G' τ' ρ' ∧ gA G' n = 0 := by
  have hb := PR_bounds hP
  obtain ⟨p1, p2, p3, p4, p5, p6⟩ := pass_ok hP 1 c1 (by omega)
  have hB0 := hP.2.2.1
  have hS := p5.2.2.2.2.1
  have r1 := q_r_nameNode hP.1 (m := 0) (dn := dn) (tk := a) (lo := n) (cs := fun _ => 0) (k61 := τ.1 61) (k55 := τ.1 55) hB0 hP.2.2.2.2.1 (by omega) (by omega) (by omega) p2 c1 (fun i hi => absurd hi (by omega)) (fun _ => rfl) (fun q => absurd q (by omega))
  have hnn := name_new (m := 0) (tk := a) (lo := n) (B0 := l) (cs := fun _ => 0) p5 (by omega) p2 c1 (by omega) (by omega) (fun i hi => absurd hi (by omega)) (fun i hi => absurd hi (by omega)) (fun i hi => absurd hi (by omega)) (fun q => absurd q (by omega)) (Nat.le_refl n) (fun _ => rfl) (fun q => absurd q (by omega)) (fun s' q => sc_lt sc hS s' q) (by rw [if_pos rfl]) (Nat.le_refl l)
  have eqρ : jx_i (gv (rname ρ (fun _ => 0) n 0 dn a (nI n) (rsF E (ρ.1 142) (ρ.1 143) a sc.length)) dn n) 106 40 (nI (a + 1)) = gv (rname (jx_i ρ 106 40 (nI (a + 1))) (fun _ => 0) n 0 dn a (nI n) (rsF E ((jx_i ρ 106 40 (nI (a + 1))).1 142) ((jx_i ρ 106 40 (nI (a + 1))).1 143) a sc.length)) dn n := by
    rw [s_i_ne (k := 106) (j := 40) (a := 142) (by decide), s_i_ne (k := 106) (j := 40) (a := 143) (by decide)]
    unfold gv rname rnode
    simp only [Nat.zero_sub, rlk]
    simp (disch := decide) only [jx_i_out, jx_i_out2]
  have q40 : (gv (rname ρ (fun _ => 0) n 0 dn a (nI n) (rsF E (ρ.1 142) (ρ.1 143) a sc.length)) dn n).1 106 40 = nI a := by
    unfold gv rname rnode
    simp only [Nat.zero_sub, rlk]
    simp (disch := first | assumption | decide | omega) only [hB0.2.2.2.1, nI_lit, cT_lt, cF_lt, cT_le, cF_le, cT_eq, cF_eq, nF_le, mF_eq, mG_eq, mT_lt, eq_self, nI_clamp, nI_add, Nat.add_zero, nI_sub, s_i_ne, s_i_eq, s_i_2, s_l_1, s_l_ne, s_l_eq, s_p_ne, s_p_eq, s_p_2, s_q_1, s_q_ne, s_q_eq, u_ne, u_eq, v_ne, v_eq, w_ne, w_eq, jI_at_in, jL_at_in, false_or, or_false, true_or, or_true, true_and, and_true, false_and, and_false, not_true_eq_false, not_false_eq_true, ↓reduceIte, Option.bind_some, Option.map_some]
  have qg := q_r_give (rname ρ (fun _ => 0) n 0 dn a (nI n) (rsF E (ρ.1 142) (ρ.1 143) a sc.length)) dn n (by unfold rname rnode; simp (disch := first | assumption | decide | omega) only [nI_lit, cT_lt, cF_lt, cT_le, cF_le, cT_eq, cF_eq, nF_le, mF_eq, mG_eq, mT_lt, eq_self, nI_clamp, nI_add, Nat.add_zero, nI_sub, s_i_ne, s_i_eq, s_i_2, s_l_1, s_l_ne, s_l_eq, s_p_ne, s_p_eq, s_p_2, s_q_1, s_q_ne, s_q_eq, u_ne, u_eq, v_ne, v_eq, w_ne, w_eq, jI_at_in, jL_at_in, false_or, or_false, true_or, or_true, true_and, and_true, false_and, and_false, not_true_eq_false, not_false_eq_true, ↓reduceIte, Option.bind_some, Option.map_some]) (by omega)
  rw [← eqρ] at hnn
  have hw : ((p_r_nameNode (nI a) (nI 0) ρ).bind fun q4 => ((p_r_give q4.1 q4.2).bind fun q5 => (some ((jx_i q5 106 40 ((q5.1 106 40) + (1 : Int32))))))) = some (jx_i (gv (rname ρ (fun _ => 0) n 0 dn a (nI n) (rsF E (ρ.1 142) (ρ.1 143) a sc.length)) dn n) 106 40 (nI (a + 1))) := by
    rw [r1, Option.bind_some, qg, Option.bind_some, q40, nI_1]
  clear r1 eqρ q40 qg
  generalize jx_i (gv (rname ρ (fun _ => 0) n 0 dn a (nI n) (rsF E (ρ.1 142) (ρ.1 143) a sc.length)) dn n) 106 40 (nI (a + 1)) = ρ' at hnn hw
  obtain ⟨τ', G', n1, n2, n3, n4, n5, n6, n7, n8, n9⟩ := hnn
  rw [if_neg (Nat.lt_irrefl 0)] at n1
  have n1' : p_cRea_addName (nI a) (0 : Int32) (0 : Int32) (jx_i τ 5 6 (nI (a + 1))) = some (nI (n + 1), τ') := n1
  rw [if_pos rfl] at n7
  have n7' : gA G' (n + 1 - 1) = 0 := n7.2
  refine ⟨τ', ρ', G', ?_, hw, ⟨by omega, by omega, by omega, by omega, n3, ?_, n5, n6, n7.1, ?_⟩, n7.2⟩
  · rw [p4, Option.bind_some, n1', Option.bind_some]
  · exact KP_trans p6 (n4 n l sc.length t (Nat.le_refl n)) (Nat.le_refl _) (Nat.le_refl _) (Nat.le_refl _) (Nat.le_refl _) (Nat.le_refl _)
  · rw [n8, show n + 1 - n = 0 + 1 by omega, letc_no (fun q => by rw [n9, u_eq (show n + 0 = n from rfl)] at q; exact absurd q (by decide))]
    show (jx_i ρ 106 40 (nI (a + 1))).1 130 f = ρ.1 130 f + nI 0
    rw [s_i_ne (by decide)]
    exact (nI_z _).symm
theorem sim_atom_n {E : jEn} {f nf a n l : Nat} {sc : List Nat} {G : jGh} {t dn dep : Nat} {τ ρ : jx_S} {rec : Int32 → jx_S → Option (Int32 × jx_S)} {x1 : Int32} (hrec : RecOK E f nf dep rec) (hx1 : x1 + 1 = nI dep) (h : PR E f nf a n l sc G (t + 1) dn dep τ ρ) (h138 : ρ.1 138 t = nI 16) (ht : t + 1 + 14 * (31 - dep) ≤ 3900) (c1 : eK E a = 1) : SimS E f nf a n l sc G t dn dep τ ρ 15 2 (p_cRea_readAtom rec x1 τ) := by
  have hb := PR_bounds h
  obtain ⟨hP, hK, h130⟩ := PR_pop h
  have hB := h.2.2.1
  have one : ∀ ρ1, p_r_atom (jx_i ρ 106 45 (nI t)) = some ρ1 → RT f 1 ρ ρ1 := fun ρ1 q => RT_one hB.2.2.1 hB.2.2.2.2.2.2.2.2.1 (by omega) (by rw [h138, ro16]; exact q)
  obtain ⟨kc, k1, k2, k3, k4, k5, k6⟩ := kind_ne hP
  have hB0 := hP.2.2.1
  have g6 := hP.2.1.2.2.1
  obtain ⟨τ', ρ', G', e1, e2, e3, e4⟩ := atom_name hP c1
  have e4' : gA G' (n + 1 - 1) = 0 := e4
  have hkc : kc = 1 := by omega
  have hstep := one ρ' (by
    unfold p_r_atom
    rw [k3, if_neg (nI_in (show a < 1202 by omega) (by omega)), nI_clamp (by omega), k2, c1, if_pos (by decide), if_neg (by decide)]
    exact e2)
  refine ⟨nI (n + 1), τ', 1, ρ', ?_, hstep, Or.inr ⟨a + 1, n + 1, l, G', by omega, rfl, ?_⟩⟩
  · unfold p_cRea_readAtom
    rw [k1, hkc, if_pos (show nI 1 = 1 from rfl), g6]
    exact e1
  · exact Done_wrap e3 hK (by rw [h130]) (Nat.le_refl _) (Nat.le_refl _) e3.2.2.2.2.1 KP_refl rfl (Nat.le_refl _)
theorem sim_atom_l {E : jEn} {f nf a n l : Nat} {sc : List Nat} {G : jGh} {t dn dep : Nat} {τ ρ : jx_S} {rec : Int32 → jx_S → Option (Int32 × jx_S)} {x1 : Int32} (hrec : RecOK E f nf dep rec) (hx1 : x1 + 1 = nI dep) (h : PR E f nf a n l sc G (t + 1) dn dep τ ρ) (h138 : ρ.1 138 t = nI 16) (ht : t + 1 + 14 * (31 - dep) ≤ 3900) (cl : eK E a = 2 ∨ eK E a = 13 ∨ eK E a = 15) : SimS E f nf a n l sc G t dn dep τ ρ 15 2 (p_cRea_readAtom rec x1 τ) := by
  have hb := PR_bounds h
  obtain ⟨hP, hK, h130⟩ := PR_pop h
  have hB := h.2.2.1
  have one : ∀ ρ1, p_r_atom (jx_i ρ 106 45 (nI t)) = some ρ1 → RT f 1 ρ ρ1 := fun ρ1 q => RT_one hB.2.2.1 hB.2.2.2.2.2.2.2.2.1 (by omega) (by rw [h138, ro16]; exact q)
  obtain ⟨kc, k1, k2, k3, k4, k5, k6⟩ := kind_ne hP
  have hB0 := hP.2.2.1
  have g6 := hP.2.1.2.2.1
  obtain ⟨τ', ρ', G', e1, e2, e3, e4⟩ := leaf_new (eK E a) hP rfl cl
  have e4' : gA G' (n + 1 - 1) = 0 := e4
  have hkc : kc = eK E a := by omega
  have hstep := one ρ' (by
    unfold p_r_atom
    rw [k3, if_neg (nI_in (show a < 1202 by omega) (by omega)), nI_clamp (by omega), k2, if_pos (fun q => by have := (nI_eq (b := 16) (by omega) (by omega)).mp q; omega), if_pos (fun q => by have := (nI_eq (b := 1) (by omega) (by omega)).mp q; omega), e2]
    rcases cl with cl | cl | cl <;> rw [cl] <;> rfl)
  refine ⟨nI (n + 1), τ', 1, ρ', ?_, hstep, Or.inr ⟨a + 1, n + 1, l, G', by omega, rfl, ?_⟩⟩
  · unfold p_cRea_readAtom p_cRea_readAtom_97
    rw [k1, hkc, g6, if_neg (fun q => by have := (nI_eq (b := 1) (by omega) (by omega)).mp q; omega)]
    rw [show (((p_cRea_pass (nI (eK E a)) τ).bind fun q3 => ((p_cRea_addNode (nI (eK E a)) (nI a) (0 : Int32) (0 : Int32) (0 : Int32) (0 : Int32) q3).bind fun q4 => (some ((q4.1, q4.2)))))) = some (nI (n + 1), τ') from e1]
    rcases cl with cl | cl | cl <;> rw [cl] <;> rfl
  · exact Done_wrap e3 hK (by rw [h130]) (Nat.le_refl _) (Nat.le_refl _) e3.2.2.2.2.1 KP_refl rfl (Nat.le_refl _)
theorem sim_atom_f {E : jEn} {f nf a n l : Nat} {sc : List Nat} {G : jGh} {t dn dep : Nat} {τ ρ : jx_S} {rec : Int32 → jx_S → Option (Int32 × jx_S)} {x1 : Int32} (hrec : RecOK E f nf dep rec) (hx1 : x1 + 1 = nI dep) (h : PR E f nf a n l sc G (t + 1) dn dep τ ρ) (h138 : ρ.1 138 t = nI 16) (ht : t + 1 + 14 * (31 - dep) ≤ 3900) (c16 : eK E a ≠ 16) (c1 : eK E a ≠ 1) (cl : ¬ (eK E a = 2 ∨ eK E a = 13 ∨ eK E a = 15)) : SimS E f nf a n l sc G t dn dep τ ρ 15 2 (p_cRea_readAtom rec x1 τ) := by
  have hb := PR_bounds h
  obtain ⟨hP, hK, h130⟩ := PR_pop h
  have hB := h.2.2.1
  have one : ∀ ρ1, p_r_atom (jx_i ρ 106 45 (nI t)) = some ρ1 → RT f 1 ρ ρ1 := fun ρ1 q => RT_one hB.2.2.1 hB.2.2.2.2.2.2.2.2.1 (by omega) (by rw [h138, ro16]; exact q)
  obtain ⟨kc, k1, k2, k3, k4, k5, k6⟩ := kind_ne hP
  have hB0 := hP.2.2.1
  have g6 := hP.2.1.2.2.1
  obtain ⟨s1, s2, s3⟩ := stop_both (nI 2) (by decide) hP
  have hstep := one _ (by
    unfold p_r_atom
    simp (disch := first | assumption | decide | omega) only [k3, k2, s2, nI_lit, cT_lt, cF_lt, cT_le, cF_le, cT_eq, cF_eq, nF_le, mF_eq, mG_eq, mT_lt, eq_self, nI_clamp, nI_add, Nat.add_zero, nI_sub, s_i_ne, s_i_eq, s_i_2, s_l_1, s_l_ne, s_l_eq, s_p_ne, s_p_eq, s_p_2, s_q_1, s_q_ne, s_q_eq, u_ne, u_eq, v_ne, v_eq, w_ne, w_eq, jI_at_in, jL_at_in, false_or, or_false, true_or, or_true, true_and, and_true, false_and, and_false, not_true_eq_false, not_false_eq_true, ↓reduceIte, Option.bind_some, Option.map_some]
    exact rfl)
  refine ⟨0, _, 1, _, ?_, hstep, Or.inl ⟨by omega, _, _, _, s3⟩⟩
  unfold p_cRea_readAtom
  simp (disch := first | assumption | decide | omega) only [k1, s1, nI_lit, cT_lt, cF_lt, cT_le, cF_le, cT_eq, cF_eq, nF_le, mF_eq, mG_eq, mT_lt, eq_self, nI_clamp, nI_add, Nat.add_zero, nI_sub, s_i_ne, s_i_eq, s_i_2, s_l_1, s_l_ne, s_l_eq, s_p_ne, s_p_eq, s_p_2, s_q_1, s_q_ne, s_q_eq, u_ne, u_eq, v_ne, v_eq, w_ne, w_eq, jI_at_in, jL_at_in, false_or, or_false, true_or, or_true, true_and, and_true, false_and, and_false, not_true_eq_false, not_false_eq_true, ↓reduceIte, Option.bind_some, Option.map_some]
theorem sim_atom {E : jEn} {f nf a n l : Nat} {sc : List Nat} {G : jGh} {t dn dep : Nat} {τ ρ : jx_S} {rec : Int32 → jx_S → Option (Int32 × jx_S)} {x1 : Int32} (hrec : RecOK E f nf dep rec) (hx1 : x1 + 1 = nI dep) (h : PR E f nf a n l sc G (t + 1) dn dep τ ρ) (h138 : ρ.1 138 t = nI 16) (ht : t + 1 + 14 * (31 - dep) ≤ 3900) : SimS E f nf a n l sc G t dn dep τ ρ 15 2 (p_cRea_readAtom rec x1 τ) := by
  by_cases c16 : eK E a = 16
  · exact sim_atom_p hrec hx1 h h138 ht c16
  by_cases c1 : eK E a = 1
  · exact sim_atom_n hrec hx1 h h138 ht c1
  by_cases cl : eK E a = 2 ∨ eK E a = 13 ∨ eK E a = 15
  · exact sim_atom_l hrec hx1 h h138 ht cl
  exact sim_atom_f hrec hx1 h h138 ht c16 c1 cl
