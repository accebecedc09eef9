/-! READER, 13: two parts become one; calls. -/
def fin2 (ρ : jx_S) (n o tk r1 r2 dn lo : Nat) : jx_S := gv (rnode (jx_i (jx_i ρ 106 47 (nI (dn + 1))) 106 47 (nI dn)) n (nI o) (nI tk) (nI r1) (nI r2) (-1) (nI lo)) dn n
theorem take2 {E : jEn} {f nf a n l : Nat} {sc : List Nat} {G : jGh} {t dn dep tk r1 r2 lo : Nat} {τ ρ : jx_S} (o : Nat) (hP : PR E f nf a n l sc G t (dn + 2) dep τ ρ) (d1 : ρ.1 141 dn = nI r1) (d2 : ρ.1 141 (dn + 1) = nI r2) (hr : r1 < n) (l1 : ρ.1 121 r1 = nI lo) : ((p_r_take ρ).bind fun q22 => ((p_r_take q22.2).bind fun q23 => ((p_r_node (nI o) (nI tk) q23.1 q22.1 (-1 : Int32) q23.2).bind fun q24 => ((p_r_give q24.1 q24.2).bind fun q25 => (some (q25)))))) = some (fin2 ρ n o tk r1 r2 dn lo) := by
  have hb := PR_bounds hP
  have hB := hP.2.2.1
  obtain ⟨b0, b1, b2, b3, b4, b5, b6, b7, b8, b9, b10⟩ := id hB
  have t1 := q_r_take ρ (dn + 1) b9 (by omega)
  have t2 := q_r_take (jx_i ρ 106 47 (nI (dn + 1))) dn (by simp (disch := first | assumption | decide | omega) only [nI_lit, cT_lt, cF_lt, cT_le, cF_le, cT_eq, cF_eq, nF_le, mF_eq, mG_eq, mT_lt, eq_self, nI_clamp, nI_add, Nat.add_zero, nI_sub, s_i_ne, s_i_eq, s_i_2, s_l_1, s_l_ne, s_l_eq, s_p_ne, s_p_eq, s_p_2, s_q_1, s_q_ne, s_q_eq, u_ne, u_eq, v_ne, v_eq, w_ne, w_eq, jI_at_in, jL_at_in, false_or, or_false, true_or, or_true, true_and, and_true, false_and, and_false, not_true_eq_false, not_false_eq_true, ↓reduceIte, Option.bind_some, Option.map_some]) (by omega)
  rw [s_i_ne (by decide), d1] at t2
  have t3 := q_r_node_in (jx_i (jx_i ρ 106 47 (nI (dn + 1))) 106 47 (nI dn)) n r1 (nI o) (nI tk) (nI r2) (-1) (by simp (disch := first | assumption | decide | omega) only [b4, nI_lit, cT_lt, cF_lt, cT_le, cF_le, cT_eq, cF_eq, nF_le, mF_eq, mG_eq, mT_lt, eq_self, nI_clamp, nI_add, Nat.add_zero, nI_sub, s_i_ne, s_i_eq, s_i_2, s_l_1, s_l_ne, s_l_eq, s_p_ne, s_p_eq, s_p_2, s_q_1, s_q_ne, s_q_eq, u_ne, u_eq, v_ne, v_eq, w_ne, w_eq, jI_at_in, jL_at_in, false_or, or_false, true_or, or_true, true_and, and_true, false_and, and_false, not_true_eq_false, not_false_eq_true, ↓reduceIte, Option.bind_some, Option.map_some]) (by omega) (by omega)
  rw [s_i_ne (by decide), s_i_ne (by decide), l1] at t3
  have t4 := q_r_give (rnode (jx_i (jx_i ρ 106 47 (nI (dn + 1))) 106 47 (nI dn)) n (nI o) (nI tk) (nI r1) (nI r2) (-1) (nI lo)) dn n (by unfold rnode; simp (disch := first | assumption | decide | omega) only [nI_lit, cT_lt, cF_lt, cT_le, cF_le, cT_eq, cF_eq, nF_le, mF_eq, mG_eq, mT_lt, eq_self, nI_clamp, nI_add, Nat.add_zero, nI_sub, s_i_ne, s_i_eq, s_i_2, s_l_1, s_l_ne, s_l_eq, s_p_ne, s_p_eq, s_p_2, s_q_1, s_q_ne, s_q_eq, u_ne, u_eq, v_ne, v_eq, w_ne, w_eq, jI_at_in, jL_at_in, false_or, or_false, true_or, or_true, true_and, and_true, false_and, and_false, not_true_eq_false, not_false_eq_true, ↓reduceIte, Option.bind_some, Option.map_some]) (by omega)
  rw [t1, Option.bind_some, d2, t2, Option.bind_some, t3, Option.bind_some, t4, Option.bind_some]
  rfl
theorem two_done {E : jEn} {f nf a n l : Nat} {sc : List Nat} {G : jGh} {t dn dep : Nat} {τ ρ τ1 ρ1 τ2 ρ2 τ3 ρ3 τ4 ρ4 ρ5 : jx_S} {a1 t1 tp1 tp tp2 a2 n2 l2 a3 t2 a4 n4 l4 tk : Nat} {G2 G4 : jGh} (o : Nat)
    (hK0 : KP f n l sc.length t dn τ ρ τ1 ρ1) (h130_0 : ρ1.1 130 f = ρ.1 130 f) (hD1 : DoneT E f nf a1 n l sc G t1 tp1 dn dep τ1 ρ1 a2 n2 l2 G2 τ2 ρ2) (ht1 : t ≤ t1) (hK1 : KP f n2 l2 sc.length t (dn + 1) τ2 ρ2 τ3 ρ3) (h130_1 : ρ3.1 130 f = ρ2.1 130 f) (hD2 : DoneT E f nf a3 n2 l2 sc G2 t2 tp2 (dn + 1) dep τ3 ρ3 a4 n4 l4 G4 τ4 ρ4) (ht2 : t ≤ t2)
    (hP : PR E f nf a4 n4 l4 sc G4 tp (dn + 2) dep τ4 ρ5) (hK2 : KP f n4 l4 sc.length t (dn + 2) τ4 ρ4 τ4 ρ5) (h130_2 : ρ5.1 130 f = ρ4.1 130 f) (htk : tk < eC E) (hk : eK E tk = o) (ho : o = 14 ∨ o = 19 ∨ (23 ≤ o ∧ o ≤ 27)) (hcnt : n4 + 1 - n ≤ a4 - a) (hlt : a < a4) (hsc : ∀ s, s ∈ sc → s < l) (hdn : dn ≤ n) (hna0 : n ≤ a) :
    ∃ τ5 ρ6 G5, p_cRea_addNode (nI o) (nI tk) 0 (nI n2) (nI n4) 0 τ4 = some (nI (n4 + 1), τ5) ∧ ((p_r_take ρ5).bind fun q22 => ((p_r_take q22.2).bind fun q23 => ((p_r_node (nI o) (nI tk) q23.1 q22.1 (-1 : Int32) q23.2).bind fun q24 => ((p_r_give q24.1 q24.2).bind fun q25 => (some (q25)))))) = some ρ6 ∧ DoneT E f nf a n l sc G t tp dn dep τ ρ a4 (n4 + 1) l4 G5 τ5 ρ6 ∧ ∀ t0, rowsK [138, 139, 140] t0 ρ5.1 ρ6.1 := by
  obtain ⟨c1, c2, c3, c4, c5, c6, c7, c8, c9, c10⟩ := hD1
  obtain ⟨e1, e2, e3, e4, e5, e6, e7, e8, e9, e10⟩ := hD2
  have hb := PR_bounds hP
  have R1 : Rt τ4 ρ5 G4 sc (n2 - 1) n l l2 := Rt_keep (Rt_keep (Rt_keep c8 hK1 (by omega) rfl) e6 (by omega) (e9 _ (by omega))) hK2 (by omega) rfl
  have R2 : Rt τ4 ρ5 G4 sc (n4 - 1) n2 l2 l4 := Rt_keep e8 hK2 (by omega) rfl
  have d1 : ρ5.1 141 dn = nI (n2 - 1) := by
    rw [hK2.2.2.1 141 (by decide) dn (by omega), e6.2.2.1 141 (by decide) dn (by omega), hK1.2.2.1 141 (by decide) dn (by omega)]
    exact c7
  have d2 : ρ5.1 141 (dn + 1) = nI (n4 - 1) := by
    rw [hK2.2.2.1 141 (by decide) (dn + 1) (by omega)]
    exact e7
  obtain ⟨u1, u2, u3, u4, u5, u6, u7⟩ := R1
  obtain ⟨w1, w2, w3, w4, w5, w6, w7⟩ := R2
  have hnn := two_new (tk := tk) (lo := n) (B0 := l) (r1 := n2 - 1) (r2 := n4 - 1) o hP (by omega) htk hk ho (by omega) hdn d1 d2 (by omega) (by omega) (by omega) u3 (by rw [w3]; congr 1; omega) u2 u4 w2 w4 u5 w5 u6 (by rw [w6, u7]) w7 hsc (by omega)
  have ht := take2 (tk := tk) o hP d1 d2 (by omega) u3
  have hfin : gv (rnode (jx_i (jx_i ρ5 106 47 (nI (dn + 1))) 106 47 (nI dn)) n4 (nI o) (nI tk) (nI (n2 - 1)) (nI (n4 - 1)) (-1) (nI n)) dn n4 = fin2 ρ5 n4 o tk (n2 - 1) (n4 - 1) dn n := rfl
  rw [hfin] at hnn
  generalize fin2 ρ5 n4 o tk (n2 - 1) (n4 - 1) dn n = ρ6 at hnn ht
  obtain ⟨τ5, G5, n1, n3, n5, n6, n7, n8, n9, n10⟩ := hnn
  refine ⟨τ5, ρ6, G5, ?_, ht, ⟨hlt, by omega, ⟨hcnt, by rw [show n4 + 1 - 1 = n4 by omega, n8.2]; exact Nat.zero_le _⟩, by omega, n3, ?_, n6, n7, fun j hj => ?_, ?_⟩, fun t0 => (n5 n l sc.length t0 (Nat.le_refl n)).2.2.2.1⟩
  · rw [show n2 - 1 + 1 = n2 by omega, show n4 - 1 + 1 = n4 by omega] at n1
    exact n1
  · have kk := n5 n l sc.length t (Nat.le_refl n)
    exact KP_trans (KP_trans (KP_trans (KP_trans (KP_trans hK0 c6 (Nat.le_refl _) (Nat.le_refl _) (Nat.le_refl _) ht1 (Nat.le_refl _)) hK1 (by omega) c4 (Nat.le_refl _) (Nat.le_refl _) (by omega)) e6 (by omega) c4 (Nat.le_refl _) ht2 (by omega)) hK2 (by omega) (by omega) (Nat.le_refl _) (Nat.le_refl _) (by omega)) kk (Nat.le_refl _) (Nat.le_refl _) (Nat.le_refl _) (Nat.le_refl _) (Nat.le_refl _)
  · rw [n8.1 j (by omega), e9 j (by omega), c9 j hj]
  · have q12 : ∀ j, j < n4 → ρ6.1 112 j = ρ5.1 112 j := fun j hj => by rw [n10, u_ne (by omega)]
    have q5 : ∀ j, j < n4 → ρ5.1 112 j = ρ4.1 112 j := fun j hj => hK2.2.1 112 (by decide) j hj
    have q4 : ∀ j, j < n2 → ρ4.1 112 j = ρ2.1 112 j := fun j hj => (e6.2.1 112 (by decide) j hj).trans (hK1.2.1 112 (by decide) j hj)
    rw [n9, h130_2, e10, h130_1, c10, h130_0, show n4 + 1 - n = (n4 - n) + 1 by omega, letc_no (fun q => by
      rw [show n + (n4 - n) = n4 by omega, n10, u_eq rfl] at q
      have := (nI_eq (by omega) (by omega)).mp q
      omega)]
    rw [show n4 - n = (n2 - n) + (n4 - n2) by omega, letc_add, show n + (n2 - n) = n2 by omega, ← nI_add, Int32.add_assoc]
    rw [letc_congr (g := ρ2.1 112) (g' := ρ6.1 112) (n2 - n) (fun j hj => by rw [q12 _ (by omega), q5 _ (by omega), q4 _ (by omega)]), letc_congr (g := ρ4.1 112) (g' := ρ6.1 112) (n4 - n2) (fun j hj => by rw [q12 _ (by omega), q5 _ (by omega)])]
theorem ro20 (x y : Int32) (σ : jx_S) : p_r_readOne (nI 20) x y σ = ((p_r_take σ).bind fun q22 => ((p_r_take q22.2).bind fun q23 => ((p_r_node (nI 14) x q23.1 q22.1 (-1 : Int32) q23.2).bind fun q24 => ((p_r_give q24.1 q24.2).bind fun q25 => (some (q25)))))) := by
  unfold p_r_readOne p_r_readMore
  simp (disch := first | assumption | decide | omega) only [ob_id, nI_lit, cT_lt, cF_lt, cT_le, cF_le, cT_eq, cF_eq, nF_le, mF_eq, mG_eq, mT_lt, eq_self, nI_clamp, nI_add, Nat.add_zero, nI_sub, s_i_ne, s_i_eq, s_i_2, s_l_1, s_l_ne, s_l_eq, s_p_ne, s_p_eq, s_p_2, s_q_1, s_q_ne, s_q_eq, u_ne, u_eq, v_ne, v_eq, w_ne, w_eq, jI_at_in, jL_at_in, false_or, or_false, true_or, or_true, true_and, and_true, false_and, and_false, not_true_eq_false, not_false_eq_true, ↓reduceIte, Option.bind_some, Option.map_some]
theorem ro19 (E : jEn) (tk : Nat) (y : Int32) (σ : jx_S) (hR : EnvR E σ) (htk : tk < eC E) (hc : eC E ≤ 1200) : p_r_readOne (nI 19) (nI tk) y σ = ((p_r_take σ).bind fun q22 => ((p_r_take q22.2).bind fun q23 => ((p_r_node (nI (eK E tk)) (nI tk) q23.1 q22.1 (-1 : Int32) q23.2).bind fun q24 => ((p_r_give q24.1 q24.2).bind fun q25 => (some (q25)))))) := by
  have h8 : ∀ q : Int32 × jx_S, p_r_take σ = some q → ∀ q' : Int32 × jx_S, p_r_take q.2 = some q' → q'.2.1 108 tk = nI (eK E tk) := by
    intro q hq q' hq'
    have a1 : ∀ σ' : jx_S, ∀ r, p_r_take σ' = some r → r.2.1 108 = σ'.1 108 := by
      intro σ' r hr
      unfold p_r_take at hr
      split at hr
      · cases hr
      · cases hr
        exact s_i_ne (by decide)
    rw [a1 _ _ hq', a1 _ _ hq]
    exact (hR.2 tk (by omega)).1
  unfold p_r_readOne p_r_readMore
  simp (disch := first | assumption | decide | omega) only [ob_id, nI_lit, cT_lt, cF_lt, cT_le, cF_le, cT_eq, cF_eq, nF_le, mF_eq, mG_eq, mT_lt, eq_self, nI_clamp, nI_add, Nat.add_zero, nI_sub, s_i_ne, s_i_eq, s_i_2, s_l_1, s_l_ne, s_l_eq, s_p_ne, s_p_eq, s_p_2, s_q_1, s_q_ne, s_q_eq, u_ne, u_eq, v_ne, v_eq, w_ne, w_eq, jI_at_in, jL_at_in, false_or, or_false, true_or, or_true, true_and, and_true, false_and, and_false, not_true_eq_false, not_false_eq_true, ↓reduceIte, Option.bind_some, Option.map_some]
  cases hq : p_r_take σ with
  | none => rfl
  | some q =>
    rw [Option.bind_some, Option.bind_some]
    cases hq' : p_r_take q.2 with
    | none => rfl
    | some q' =>
      rw [Option.bind_some, Option.bind_some, h8 q hq q' hq']
theorem told_call72 {rec : Int32 → jx_S → Option (Int32 × jx_S)} {τ : jx_S} (h : τ.1 1 0 ≠ 0) (x1 x2 x3 x4 x5 x6 : Int32) (N : Nat) : jx_loop (N + 1) (fun s : Int32 × Int32 × Int32 × Int32 × Int32 × Int32 × jx_S => p_cRea_readCall_72_s rec s.1 s.2.1 s.2.2.1 s.2.2.2.1 s.2.2.2.2.1 s.2.2.2.2.2.1 (s.2.2.2.2.2.2)) (x1, x2, x3, x4, x5, x6, τ) = some (0, τ) := by
  refine jx_loop_out (X := some (0, τ)) ?_ N
  show p_cRea_readCall_72_s rec x1 x2 x3 x4 x5 x6 τ = _
  unfold p_cRea_readCall_72_s p_cRea_readCall_135
  rw [told_kind h, told_addName h]
  split <;> rfl
theorem sim_cons {E : jEn} {f nf a n l : Nat} {sc : List Nat} {G : jGh} {t dn dep : Nat} {τ ρ : jx_S} {rec : Int32 → jx_S → Option (Int32 × jx_S)} {x1 : Int32} (hrec : RecOK E f nf dep rec) (hx1 : x1 + 1 = nI dep) (h : PR E f nf a n l sc G (t + 1) dn dep τ ρ) (h138 : ρ.1 138 t = nI 14) (ht : t + 3 + 14 * (31 - dep) ≤ 3900) (hk : eK E a = 14) : SimO E f nf a n l sc G t dn dep τ ρ 14 4 (p_cRea_readCall rec x1 τ) := by
  have hb := PR_bounds h
  obtain ⟨hP, hK, h130⟩ := PR_pop h
  have hB := h.2.2.1
  obtain ⟨kc, k1, k2, k3, k4, k5, k6⟩ := kind_ne hP
  have g6 := hP.2.1.2.2.1
  obtain ⟨l1, l2, l3, l4, l5, l6, l7⟩ := PR_ltr (nI 20) (nI a) (nI 0) hP (by omega)
  obtain ⟨m1, m2, m3, m4, m5, m6, m7⟩ := PR_ltr (nI 16) (nI 0) (nI 0) l2 (by omega)
  obtain ⟨o1, o2, o3, o4, o5, o6, o7⟩ := PR_ltr (nI 16) (nI 0) (nI 0) m2 (by omega)
  obtain ⟨p1, p2, p3, p4, p5, p6⟩ := pass_ok o2 14 hk (by omega)
  have hst : p_r_readOne (ρ.1 138 t) (ρ.1 139 t) (ρ.1 140 t) (jx_i ρ 106 45 (nI t)) = some (jx_i (ltr (ltr (ltr (jx_i ρ 106 45 (nI t)) t (nI 20) (nI a) (nI 0)) (t + 1) (nI 16) (nI 0) (nI 0)) (t + 1 + 1) (nI 16) (nI 0) (nI 0)) 106 40 (nI (a + 1))) := by
    have q40 := o2.2.2.1.2.2.2.1
    rw [h138]
    unfold p_r_readOne p_r_readMore
    simp (disch := first | assumption | decide | omega) only [k3, k2, hk, l1, m1, o1, q40, nI_lit, cT_lt, cF_lt, cT_le, cF_le, cT_eq, cF_eq, nF_le, mF_eq, mG_eq, mT_lt, eq_self, nI_clamp, nI_add, Nat.add_zero, nI_sub, s_i_ne, s_i_eq, s_i_2, s_l_1, s_l_ne, s_l_eq, s_p_ne, s_p_eq, s_p_2, s_q_1, s_q_ne, s_q_eq, u_ne, u_eq, v_ne, v_eq, w_ne, w_eq, jI_at_in, jL_at_in, false_or, or_false, true_or, or_true, true_and, and_true, false_and, and_false, not_true_eq_false, not_false_eq_true, ↓reduceIte, Option.bind_some, Option.map_some]
  have hstep : RT f 1 ρ _ := RT_one hB.2.2.1 hB.2.2.2.2.2.2.2.2.1 (by omega) hst
  generalize ltr (ltr (ltr (jx_i ρ 106 45 (nI t)) t (nI 20) (nI a) (nI 0)) (t + 1) (nI 16) (nI 0) (nI 0)) (t + 1 + 1) (nI 16) (nI 0) (nI 0) = ρ3 at *
  have KK : KP f n l sc.length t dn τ ρ (jx_i τ 5 6 (nI (a + 1))) (jx_i ρ3 106 40 (nI (a + 1))) := KP_trans (KP_trans (KP_trans (KP_trans hK l3 (Nat.le_refl _) (Nat.le_refl _) (Nat.le_refl _) (Nat.le_refl _) (Nat.le_refl _)) m3 (Nat.le_refl _) (Nat.le_refl _) (Nat.le_refl _) (by omega) (Nat.le_refl _)) o3 (Nat.le_refl _) (Nat.le_refl _) (Nat.le_refl _) (by omega) (Nat.le_refl _)) p6 (Nat.le_refl _) (Nat.le_refl _) (Nat.le_refl _) (by omega) (Nat.le_refl _)
  have i0 : (jx_i ρ3 106 40 (nI (a + 1))).1 138 t = nI 20 := by rw [s_i_ne (by decide), o3.2.2.2.1 138 (by decide) t (by omega), m3.2.2.2.1 138 (by decide) t (by omega)]; exact l5
  have i1 : (jx_i ρ3 106 40 (nI (a + 1))).1 139 t = nI a := by rw [s_i_ne (by decide), o3.2.2.2.1 139 (by decide) t (by omega), m3.2.2.2.1 139 (by decide) t (by omega)]; exact l6
  have j0 : (jx_i ρ3 106 40 (nI (a + 1))).1 138 (t + 1) = nI 16 := by rw [s_i_ne (by decide), o3.2.2.2.1 138 (by decide) (t + 1) (by omega)]; exact m5
  have j1 : (jx_i ρ3 106 40 (nI (a + 1))).1 138 (t + 1 + 1) = nI 16 := by rw [s_i_ne (by decide)]; exact o5
  have q130 : (jx_i ρ3 106 40 (nI (a + 1))).1 130 f = ρ.1 130 f := by rw [s_i_ne (by decide), o4, m4, l4, h130]
  obtain ⟨v1, τ2, e1, ρ2, x1', x2, x3⟩ := sim_atom hrec hx1 p5 j1 (by omega)
  have hcl : ∀ v2 τ3 r, p_cRea_readAtom rec x1 τ2 = some (v2, τ3) → p_cRea_addNode (nI 14) (nI a) 0 v1 v2 0 τ3 = some r → p_cRea_readCall rec x1 τ = some r := by
    intro v2 τ3 r q1 q2
    unfold p_cRea_readCall
    rw [p1, if_neg (by decide), g6]
    show ((p_cRea_pass (nI 14) τ).bind _) = _
    rw [p4, Option.bind_some, x1', Option.bind_some, q1, Option.bind_some]
    show ((p_cRea_addNode (nI 14) (nI a) 0 v1 v2 0 τ3).bind _) = _
    rw [q2, Option.bind_some]
  rcases x3 with ⟨x3, t', s, x, x4⟩ | ⟨a2, n2, l2, G2, x3, x4, hD1⟩
  · exact ⟨0, τ2, 1 + e1, ρ2, hcl 0 τ2 _ (told_atom x4.1 _) (told_addNode x4.1 _ _ _ _ _ _), RT_trans hstep x2, Or.inl ⟨by omega, t', s, x, x4⟩⟩
  have hP2 := hD1.2.2.2.2.1
  have hK1 := hD1.2.2.2.2.2.1
  have hb2 := PR_bounds hP2
  have dlt := hD1.1
  obtain ⟨v2, τ3, e2, ρ4, y1, y2, y3⟩ := sim_atom hrec hx1 hP2 (by rw [hK1.2.2.2.1 138 (by decide) (t + 1) (by omega)]; exact j0) (by omega)
  rcases y3 with ⟨y3, t', s, x, y4⟩ | ⟨a4, n4, l4, G4, y3, y4, hD2⟩
  · exact ⟨0, τ3, 1 + e1 + e2, ρ4, hcl v2 τ3 _ y1 (told_addNode y4.1 _ _ _ _ _ _), RT_trans (RT_trans hstep x2) y2, Or.inl ⟨by omega, t', s, x, y4⟩⟩
  have hP4 := hD2.2.2.2.2.1
  have hK4 := hD2.2.2.2.2.2.1
  have dlt2 := hD2.1
  obtain ⟨hP5, hK5, h1305⟩ := PR_pop hP4
  have hb4 := PR_bounds hP5
  have cnt1 := hD1.2.2.1
  have cnt2 := hD2.2.2.1
  have hn1 := hD1.2.1
  have hn2 := hD2.2.1
  obtain ⟨τ5, ρ6, G5, z1, z2, z3, _⟩ := two_done (a := a) (tk := a) 14 KK q130 hD1 (by omega) KP_refl rfl hD2 (by omega) hP5 hK5 (by rw [h1305]) p2 hk (Or.inl rfl) (by omega) (by omega) (fun s q => sc_lt sc hP.2.2.2.2.1 s q) (by omega) (by omega)
  have hB4 := hP4.2.2.1
  have i4 : ρ4.1 138 t = nI 20 := by rw [hK4.2.2.2.1 138 (by decide) t (by omega), hK1.2.2.2.1 138 (by decide) t (by omega)]; exact i0
  have i5 : ρ4.1 139 t = nI a := by rw [hK4.2.2.2.1 139 (by decide) t (by omega), hK1.2.2.2.1 139 (by decide) t (by omega)]; exact i1
  have hstep2 : RT f 1 ρ4 ρ6 := RT_one hB4.2.2.1 hB4.2.2.2.2.2.2.2.2.1 (by omega) (by rw [i4, i5, ro20]; exact z2)
  exact ⟨nI (n4 + 1), τ5, 1 + e1 + e2 + 1, ρ6, hcl v2 τ3 _ y1 (by rw [x4, y4]; exact z1), RT_trans (RT_trans (RT_trans hstep x2) y2) hstep2, Or.inr ⟨a4, n4 + 1, l4, G5, by omega, rfl, z3⟩⟩
