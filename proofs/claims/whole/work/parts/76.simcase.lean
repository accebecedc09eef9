/-! READER, 23: case, to its end. -/
theorem sim_case {E : jEn} {f nf a n l : Nat} {sc : List Nat} {G : jGh} {t dn dep : Nat} {τ τ1 ρ1 : jx_S} {rec : Int32 → jx_S → Option (Int32 × jx_S)} (hrec : RecOK E f nf (dep + 1) rec) (hpass : p_cRea_pass (nI 10) τ = some τ1) (h56 : τ.1 5 6 = nI a) (hac : a < eC E) (hk : eK E a = 10) (h : PR E f nf (a + 1) n l sc G (t + 2) dn (dep + 1) τ1 ρ1) (i0 : ρ1.1 138 t = nI 7) (i1 : ρ1.1 139 t = nI a) (i2 : ρ1.1 138 (t + 1) = nI 1) (ht : t + 14 * (31 - dep) ≤ 3900) (hdep : dep ≤ 29) (hna : n ≤ a) :
    SimS E f nf a n l sc G t dn dep τ1 ρ1 6 9 (p_cRea_readCase rec (nI dep) τ) := by
  have hb := PR_bounds h
  have L : ∀ x : Nat, x ≤ x := Nat.le_refl
  have hx1 : nI dep + 1 = nI (dep + 1) := nI_1 dep
  have hcl : ∀ v1 τ2 τ3 τ4 τ5 v2 τ6 τ7 s1 τ8 τ9 s2 τ10 τ11 v3 τ14 r, rec (nI (dep + 1)) τ1 = some (v1, τ2) → p_cRea_pass (nI 11) τ2 = some τ3 → p_cRea_pass (nI 12) τ3 = some τ4 → p_cRea_pass (nI 21) τ4 = some τ5 → rec (nI (dep + 1)) τ5 = some (v2, τ6) → p_cRea_pass (nI 22) τ6 = some τ7 → p_cRea_readLocal 0 τ7 = some (s1, τ8) → p_cRea_pass (nI 18) τ8 = some τ9 → p_cRea_readLocal 1 τ9 = some (s2, τ10) → p_cRea_pass (nI 21) τ10 = some τ11 → rec (nI (dep + 1)) (jx_i (jI_put 30 (jx_i (jI_put 30 τ11 61 (τ11.1 5 5) s1) 5 5 (τ11.1 5 5 + 1)) 61 ((jx_i (jI_put 30 τ11 61 (τ11.1 5 5) s1) 5 5 (τ11.1 5 5 + 1)).1 5 5) s2) 5 5 ((jx_i (jI_put 30 τ11 61 (τ11.1 5 5) s1) 5 5 (τ11.1 5 5 + 1)).1 5 5 + 1)) = some (v3, τ14) → p_cRea_addNode (nI 10) (nI a) s1 v1 v2 v3 (jx_i τ14 5 5 (τ14.1 5 5 - 2)) = some r → p_cRea_readCase rec (nI dep) τ = some r := by
    intro v1 τ2 τ3 τ4 τ5 v2 τ6 τ7 s1 τ8 τ9 s2 τ10 τ11 v3 τ14 r q1 q2 q3 q4 q5 q6 q7 q8 q9 q10 q11 q12
    unfold p_cRea_readCase
    show ((p_cRea_pass (nI 10) τ).bind _) = _
    rw [hpass, Option.bind_some, hx1, q1, Option.bind_some]
    show ((p_cRea_pass (nI 11) τ2).bind _) = _
    rw [q2, Option.bind_some]
    show ((p_cRea_pass (nI 12) τ3).bind _) = _
    rw [q3, Option.bind_some]
    show ((p_cRea_pass (nI 21) τ4).bind _) = _
    rw [q4, Option.bind_some, q5, Option.bind_some]
    show ((p_cRea_pass (nI 22) τ6).bind _) = _
    rw [q6, Option.bind_some, q7, Option.bind_some]
    show ((p_cRea_pass (nI 18) τ8).bind _) = _
    rw [q8, Option.bind_some, q9, Option.bind_some]
    show ((p_cRea_pass (nI 21) τ10).bind _) = _
    rw [q10, Option.bind_some]
    unfold p_cRea_show
    rw [Option.bind_some, Option.bind_some, q11, Option.bind_some]
    unfold p_cRea_hide
    rw [Option.bind_some, h56]
    show ((p_cRea_addNode (nI 10) (nI a) s1 v1 v2 v3 (jx_i τ14 5 5 (τ14.1 5 5 - 2))).bind _) = _
    rw [q12, Option.bind_some]
  have tail : ∀ (σ : jx_S) (v : Int32), σ.1 1 0 ≠ 0 → (jx_i (jI_put 30 σ 61 (σ.1 5 5) v) 5 5 (σ.1 5 5 + 1)).1 1 0 ≠ 0 := fun σ v q => by rw [s_i_ne (by decide), s_p_ne (by decide)]; exact q
  have tail2 : ∀ σ : jx_S, σ.1 1 0 ≠ 0 → (jx_i σ 5 5 (σ.1 5 5 - 2)).1 1 0 ≠ 0 := fun σ q => by rw [s_i_ne (by decide)]; exact q
  have tl : ∀ v1 τ2 τ3 τ4 τ5 v2 τ6 τ7 s1 τ8 τ9 s2 τ10 τ11, rec (nI (dep + 1)) τ1 = some (v1, τ2) → p_cRea_pass (nI 11) τ2 = some τ3 → p_cRea_pass (nI 12) τ3 = some τ4 → p_cRea_pass (nI 21) τ4 = some τ5 → rec (nI (dep + 1)) τ5 = some (v2, τ6) → p_cRea_pass (nI 22) τ6 = some τ7 → p_cRea_readLocal 0 τ7 = some (s1, τ8) → p_cRea_pass (nI 18) τ8 = some τ9 → p_cRea_readLocal 1 τ9 = some (s2, τ10) → p_cRea_pass (nI 21) τ10 = some τ11 → τ11.1 1 0 ≠ 0 → ∃ τ', p_cRea_readCase rec (nI dep) τ = some (0, τ') ∧ τ'.1 1 = τ11.1 1 ∧ (τ'.1 29 = τ11.1 29 ∧ τ'.1 23 = τ11.1 23) := by
    intro v1 τ2 τ3 τ4 τ5 v2 τ6 τ7 s1 τ8 τ9 s2 τ10 τ11 q1 q2 q3 q4 q5 q6 q7 q8 q9 q10 q11
    have n1 := tail _ s1 q11
    have n2 := tail _ s2 n1
    refine ⟨_, hcl _ _ _ _ _ _ _ _ _ _ _ _ _ _ _ _ _ q1 q2 q3 q4 q5 q6 q7 q8 q9 q10 (hrec.1 _ _ n2) (told_addNode (tail2 _ n2) _ _ _ _ _ _), ?_, ?_⟩
    · rw [s_i_ne (by decide), s_i_ne (by decide), s_p_ne (by decide), s_i_ne (by decide), s_p_ne (by decide)]
    · exact ⟨by rw [s_i_ne (by decide), s_i_ne (by decide), s_p_ne (by decide), s_i_ne (by decide), s_p_ne (by decide)], by rw [s_i_ne (by decide), s_i_ne (by decide), s_p_ne (by decide), s_i_ne (by decide), s_p_ne (by decide)]⟩
  have tl6 : ∀ v1 τ2 τ3 τ4 τ5 v2 τ6, rec (nI (dep + 1)) τ1 = some (v1, τ2) → p_cRea_pass (nI 11) τ2 = some τ3 → p_cRea_pass (nI 12) τ3 = some τ4 → p_cRea_pass (nI 21) τ4 = some τ5 → rec (nI (dep + 1)) τ5 = some (v2, τ6) → τ6.1 1 0 ≠ 0 → ∃ τ', p_cRea_readCase rec (nI dep) τ = some (0, τ') ∧ τ'.1 1 = τ6.1 1 ∧ (τ'.1 29 = τ6.1 29 ∧ τ'.1 23 = τ6.1 23) := by
    intro v1 τ2 τ3 τ4 τ5 v2 τ6 q1 q2 q3 q4 q5 q6
    exact tl _ _ _ _ _ _ _ _ _ _ _ _ _ _ q1 q2 q3 q4 q5 (told_pass q6 (by decide)) (told_local q6 _) (told_pass q6 (by decide)) (told_local q6 _) (told_pass q6 (by decide)) q6
  obtain ⟨v1, τ2, e1, ρ2, x1, x2, x3⟩ := hrec.2 _ _ _ _ _ (t + 1) _ _ _ h i2 (by omega)
  rcases x3 with ⟨x3, t', s, x, x4⟩ | ⟨a1, n1, l1, G1, x3, x4, hD1⟩
  · obtain ⟨τ', q1, q2⟩ := tl6 _ _ _ _ _ _ _ x1 (told_pass x4.1 (by decide)) (told_pass x4.1 (by decide)) (told_pass x4.1 (by decide)) (hrec.1 _ _ x4.1) x4.1
    exact ⟨0, τ', e1, ρ2, q1, x2, Or.inl ⟨by omega, t', s, x, FR_c x4 q2.1 ⟨by rw [q2.2.1], by rw [q2.2.2]⟩⟩⟩
  have hP1 := hD1.2.2.2.2.1
  have hK1 := hD1.2.2.2.2.2.1
  have hB1 := hP1.2.2.1
  have dlt1 := hD1.1
  have hb1 := PR_bounds hP1
  obtain ⟨hP1', hKp1, h130_1⟩ := PR_pop hP1
  obtain ⟨τ3, τ4, τ5, ρ3, y1, y2, y3, _, y5, y6⟩ := of_step (nI a) hP1' (by omega)
  have hs1 : RT f 1 ρ2 ρ3 := RT_one hB1.2.2.1 hB1.2.2.2.2.2.2.2.2.1 (by omega) (by rw [hK1.2.2.2.1 138 (by decide) t (by omega), i0, hK1.2.2.2.1 139 (by decide) t (by omega), i1]; exact y5 _)
  rcases y6 with ⟨t', s, x, y6⟩ | ⟨w2, w3, w4, w5, w6, w7, w9⟩
  · obtain ⟨τ', q1, q2⟩ := tl6 _ _ _ _ _ _ _ x1 y1 y2 y3 (hrec.1 _ _ y6.1) y6.1
    exact ⟨0, τ', e1 + 1, ρ3, q1, RT_trans x2 hs1, Or.inl ⟨by omega, t', s, x, FR_c y6 q2.1 ⟨by rw [q2.2.1], by rw [q2.2.2]⟩⟩⟩
  obtain ⟨v2, τ6, e2, ρ4, z1, z2, z3⟩ := hrec.2 _ _ _ _ _ (t + 1) _ _ _ w3 w9 (by omega)
  rcases z3 with ⟨z3, t', s, x, z4⟩ | ⟨a2, n2, l2, G2, z3, z4, hD2⟩
  · obtain ⟨τ', q1, q2⟩ := tl6 _ _ _ _ _ _ _ x1 y1 y2 y3 z1 z4.1
    exact ⟨0, τ', e1 + 1 + e2, ρ4, q1, RT_trans (RT_trans x2 hs1) z2, Or.inl ⟨by omega, t', s, x, FR_c z4 q2.1 ⟨by rw [q2.2.1], by rw [q2.2.2]⟩⟩⟩
  have hP2 := hD2.2.2.2.2.1
  have hK2 := hD2.2.2.2.2.2.1
  have hB2 := hP2.2.2.1
  have dlt2 := hD2.1
  have hb2 := PR_bounds hP2
  obtain ⟨hP2', hKp2, h130_2⟩ := PR_pop hP2
  obtain ⟨τ7, s1, τ8, τ9, s2, τ10, τ11, ρ5, u1, u2, u3, u4, u5, u6, u7⟩ := bar_step (nI a) hP2' (by omega)
  have hs2 : RT f 1 ρ4 ρ5 := RT_one hB2.2.2.1 hB2.2.2.2.2.2.2.2.2.1 (by omega) (by rw [hK2.2.2.2.1 138 (by decide) t (by omega), w6, hK2.2.2.2.1 139 (by decide) t (by omega), w7, ro8]; exact u6)
  rcases u7 with ⟨u7, t', s, x, u8⟩ | ⟨p1, p2, p3, p4, τ13, p5, p6, p7, p8, p9, p10, p11, p12, p13⟩
  · obtain ⟨τ', q1, q2⟩ := tl _ _ _ _ _ _ _ _ _ _ _ _ _ _ x1 y1 y2 y3 z1 u1 u2 u3 u4 u5 u7
    exact ⟨0, τ', e1 + 1 + e2 + 1, ρ5, q1, RT_trans (RT_trans (RT_trans x2 hs1) z2) hs2, Or.inl ⟨by omega, t', s, x, FR_c u8 q2.1 ⟨by rw [q2.2.1], by rw [q2.2.2]⟩⟩⟩
  subst p1 p2
  have hshow : jx_i (jI_put 30 (jx_i (jI_put 30 τ11 61 (τ11.1 5 5) (nI l2)) 5 5 (τ11.1 5 5 + 1)) 61 ((jx_i (jI_put 30 τ11 61 (τ11.1 5 5) (nI l2)) 5 5 (τ11.1 5 5 + 1)).1 5 5) (nI (l2 + 1))) 5 5 ((jx_i (jI_put 30 τ11 61 (τ11.1 5 5) (nI l2)) 5 5 (τ11.1 5 5 + 1)).1 5 5 + 1) = τ13 := by
    unfold p_cRea_show at p5 p6
    have e1 := Option.some.inj p5
    rw [e1]
    exact Option.some.inj p6
  obtain ⟨v3, τ14, e3, ρ6, o1, o2, o3⟩ := hrec.2 _ _ _ _ _ (t + 1) _ _ _ p7 p13.1 (by omega)
  have hcl2 : ∀ r, p_cRea_addNode (nI 10) (nI a) (nI l2) v1 v2 v3 (jx_i τ14 5 5 (τ14.1 5 5 - 2)) = some r → p_cRea_readCase rec (nI dep) τ = some r := fun r q => hcl _ _ _ _ _ _ _ _ _ _ _ _ _ _ _ _ _ x1 y1 y2 y3 z1 u1 u2 u3 u4 u5 (by rw [hshow]; exact o1) q
  rcases o3 with ⟨o3, t', s, x, o4⟩ | ⟨a3, n3, l3, G3, o3, o4, hD3⟩
  · exact ⟨0, jx_i τ14 5 5 (τ14.1 5 5 - 2), e1 + 1 + e2 + 1 + e3, ρ6, hcl2 _ (told_addNode (tail2 _ o4.1) _ _ _ _ _ _), RT_trans (RT_trans (RT_trans (RT_trans x2 hs1) z2) hs2) o2, Or.inl ⟨by omega, t', s, x, FR_c o4 (s_i_ne (by decide)) ⟨by rw [s_i_ne (by decide)], by rw [s_i_ne (by decide)]⟩⟩⟩
  clear hcl tl tl6 tail tail2 hshow p5 p6
  have hP3 := hD3.2.2.2.2.1
  have hK3 := hD3.2.2.2.2.2.1
  have hB3 := hP3.2.2.1
  have dlt3 := hD3.1
  have hb3 := PR_bounds hP3
  obtain ⟨hP3', hKp3, h130_3⟩ := PR_pop hP3
  have hP4 := PR_hide2 (l2 + 1) l2 dep hP3'
  have h55b : τ14.1 5 5 = nI (sc.length + 2) := hP3'.2.1.2.2.2.2.2.2.1
  have h52b : (jx_i ρ6 106 45 (nI t)).1 106 52 = nI (sc.length + 2) := hP3'.2.2.1.2.2.2.2.2.2.2.1
  have h48b : (jx_i ρ6 106 45 (nI t)).1 106 48 = nI (dep + 1) := hP3'.2.2.1.2.2.2.2.2.2.2.2.2.2
  have e2' : nI (sc.length + 2) - (2 : Int32) = nI sc.length := by rw [show (2 : Int32) = nI 2 from rfl, nI_sub (by omega), Nat.add_sub_cancel]
  have hst0 := ro9 (nI a) (nI l2) (jx_i ρ6 106 45 (nI t))
  rw [h52b, h48b, e2', show nI (dep + 1) - (1 : Int32) = nI dep from nI_pred _] at hst0
  rw [h55b, e2'] at hcl2
  obtain ⟨c1, c2, c3, c4, c5, c6, c7, c8, c9, c10⟩ := hD1
  obtain ⟨d1, d2, d3, d4, d5, d6, d7, d8, d9, d10⟩ := hD2
  obtain ⟨f1, f2, f3, f4, f5, f6, f7, f8, f9, f10⟩ := hD3
  have KA : KP f n1 l1 sc.length t (dn + 1) τ2 ρ2 τ5 ρ3 := KP_trans hKp1 w4 (L _) (L _) (L _) (L _) (L _)
  have KB : KP f n2 l2 sc.length t (dn + 2) τ6 ρ4 τ13 ρ5 := KP_trans hKp2 p8 (L _) (L _) (L _) (L _) (L _)
  have KC : KP f n3 l3 sc.length t (dn + 3) τ14 ρ6 (jx_i τ14 5 5 (nI sc.length)) (jx_i (jx_i (jx_i ρ6 106 45 (nI t)) 106 52 (nI sc.length)) 106 48 (nI dep)) := KP_same (same_i same_rfl (by decide)) (same_i (same_i (same_i same_rfl (by decide)) (by decide)) (by decide))
  have q6 : ρ6.1 138 t = nI 9 := by rw [hK3.2.2.2.1 138 (by decide) t (by omega)]; exact p10
  have q7 : ρ6.1 139 t = nI a := by rw [hK3.2.2.2.1 139 (by decide) t (by omega)]; exact p11
  have q8 : ρ6.1 140 t = nI l2 := by rw [hK3.2.2.2.1 140 (by decide) t (by omega)]; exact p12
  have hs3 : ∀ ρ', p_r_readOne (nI 9) (nI a) (nI l2) (jx_i ρ6 106 45 (nI t)) = some ρ' → RT f 1 ρ6 ρ' := fun ρ' q => RT_one hB3.2.2.1 hB3.2.2.2.2.2.2.2.2.1 (by omega) (by rw [q6, q7, q8]; exact q)
  have hq : (jx_i (jx_i (jx_i ρ6 106 45 (nI t)) 106 52 (nI sc.length)) 106 48 (nI dep)).1 130 f = ρ6.1 130 f := by rw [s_i_ne (by decide), s_i_ne (by decide), h130_3]
  have hlen : ((l2 + 1) :: l2 :: sc).length = sc.length + 2 := rfl
  have R1 : Rt (jx_i τ14 5 5 (nI sc.length)) (jx_i (jx_i (jx_i ρ6 106 45 (nI t)) 106 52 (nI sc.length)) 106 48 (nI dep)) G3 sc (n1 - 1) n l l1 := Rt_keep (Rt_keep (Rt_keep (Rt_keep (Rt_keep c8 KA (by omega) rfl) d6 (by omega) (d9 _ (by omega))) KB (by omega) rfl) f6 (by omega) (f9 _ (by omega))) KC (by omega) rfl
  have R2 : Rt (jx_i τ14 5 5 (nI sc.length)) (jx_i (jx_i (jx_i ρ6 106 45 (nI t)) 106 52 (nI sc.length)) 106 48 (nI dep)) G3 sc (n2 - 1) n1 l1 l2 := Rt_keep (Rt_keep (Rt_keep d8 KB (by omega) rfl) f6 (by omega) (f9 _ (by omega))) KC (by omega) rfl
  have R3 : Rt (jx_i τ14 5 5 (nI sc.length)) (jx_i (jx_i (jx_i ρ6 106 45 (nI t)) 106 52 (nI sc.length)) 106 48 (nI dep)) G3 ((l2 + 1) :: l2 :: sc) (n3 - 1) n2 (l2 + 2) l3 := Rt_keep f8 KC (by omega) rfl
  have D1 : (jx_i (jx_i (jx_i ρ6 106 45 (nI t)) 106 52 (nI sc.length)) 106 48 (nI dep)).1 141 dn = nI (n1 - 1) := by
    rw [KC.2.2.1 141 (by decide) dn (by omega), f6.2.2.1 141 (by decide) dn (by omega), KB.2.2.1 141 (by decide) dn (by omega), d6.2.2.1 141 (by decide) dn (by omega), KA.2.2.1 141 (by decide) dn (by omega)]
    exact c7
  have D2 : (jx_i (jx_i (jx_i ρ6 106 45 (nI t)) 106 52 (nI sc.length)) 106 48 (nI dep)).1 141 (dn + 1) = nI (n2 - 1) := by
    rw [KC.2.2.1 141 (by decide) (dn + 1) (by omega), f6.2.2.1 141 (by decide) (dn + 1) (by omega), KB.2.2.1 141 (by decide) (dn + 1) (by omega)]
    exact d7
  have D3 : (jx_i (jx_i (jx_i ρ6 106 45 (nI t)) 106 52 (nI sc.length)) 106 48 (nI dep)).1 141 (dn + 2) = nI (n3 - 1) := by
    rw [KC.2.2.1 141 (by decide) (dn + 2) (by omega)]
    exact f7
  generalize jx_i (jx_i (jx_i ρ6 106 45 (nI t)) 106 52 (nI sc.length)) 106 48 (nI dep) = ρh at *
  have h57h : (jx_i τ14 5 5 (nI sc.length)).1 57 (30 * f + l2) = nI 0 ∧ (jx_i τ14 5 5 (nI sc.length)).1 57 (30 * f + (l2 + 1)) = nI 1 := by
    rw [s_i_ne (by decide), hK3.2.2.2.2.2.2.1 57 (by decide) _ (by omega), hK3.2.2.2.2.2.2.1 57 (by decide) _ (by omega)]
    exact p13.2
  generalize jx_i τ14 5 5 (nI sc.length) = τh at *
  obtain ⟨A1, A2, A3, A4, A5, A6, A7⟩ := R1
  obtain ⟨B1, B2, B3, B4, B5, B6, B7⟩ := R2
  obtain ⟨C1, C2, C3, C4, C5, C6, C7⟩ := R3
  have hnn := case_new (tk := a) (lo := n) (B0 := l) (r1 := n1 - 1) (r2 := n2 - 1) (r3 := n3 - 1) (sl := l2) hP4 (by omega) hac hk (by omega) (by omega) D1 D2 D3 (by omega) (by omega) (by omega) (by omega) A3 (by rw [B3]; congr 1; omega) (by rw [C3]; congr 1; omega) A2 A4 B2 B4 C2 C4 C1 A5 B5 (fun s q => by
    rcases List.mem_cons.mp (C5 s q) with q | q
    · exact Or.inr (Or.inr q)
    · rcases List.mem_cons.mp q with q | q
      · exact Or.inr (Or.inl q)
      · exact Or.inl q) A6 (by rw [B6, A7]) (by rw [C6, B7]) C7 B7.symm (fun s q => sc_lt sc h.2.2.2.2.1 s q) (by omega) ⟨by omega, h57h⟩
  have b4 := hP4.2.2.1.2.2.2.2.1
  have hnd := q_r_node_in (jx_i (jx_i (jx_i ρh 106 47 (nI (dn + 2))) 106 47 (nI (dn + 1))) 106 47 (nI dn)) n3 (n1 - 1) (nI 10) (nI a) (nI (n2 - 1)) (nI (n3 - 1)) (by simp (disch := first | assumption | decide | omega) only [b4, nI_lit, cT_lt, cF_lt, cT_le, cF_le, cT_eq, cF_eq, nF_le, mF_eq, mG_eq, mT_lt, eq_self, nI_clamp, nI_add, Nat.add_zero, nI_sub, s_i_ne, s_i_eq, s_i_2, s_l_1, s_l_ne, s_l_eq, s_p_ne, s_p_eq, s_p_2, s_q_1, s_q_ne, s_q_eq, u_ne, u_eq, v_ne, v_eq, w_ne, w_eq, jI_at_in, jL_at_in, false_or, or_false, true_or, or_true, true_and, and_true, false_and, and_false, not_true_eq_false, not_false_eq_true, ↓reduceIte, Option.bind_some, Option.map_some]) (by omega) (by omega)
  rw [show (jx_i (jx_i (jx_i ρh 106 47 (nI (dn + 2))) 106 47 (nI (dn + 1))) 106 47 (nI dn)).1 121 (n1 - 1) = nI n by rw [s_i_ne (by decide), s_i_ne (by decide), s_i_ne (by decide)]; exact A3] at hnd
  have hgv := q_r_give (jx_i (jx_i (rnode (jx_i (jx_i (jx_i ρh 106 47 (nI (dn + 2))) 106 47 (nI (dn + 1))) 106 47 (nI dn)) n3 (nI 10) (nI a) (nI (n1 - 1)) (nI (n2 - 1)) (nI (n3 - 1)) (nI n)) 117 n3 (nI l2)) 118 n3 (nI (l2 + 1))) dn n3 (by unfold rnode; simp (disch := first | assumption | decide | omega) only [nI_lit, cT_lt, cF_lt, cT_le, cF_le, cT_eq, cF_eq, nF_le, mF_eq, mG_eq, mT_lt, eq_self, nI_clamp, nI_add, Nat.add_zero, nI_sub, s_i_ne, s_i_eq, s_i_2, s_l_1, s_l_ne, s_l_eq, s_p_ne, s_p_eq, s_p_2, s_q_1, s_q_ne, s_q_eq, u_ne, u_eq, v_ne, v_eq, w_ne, w_eq, jI_at_in, jL_at_in, false_or, or_false, true_or, or_true, true_and, and_true, false_and, and_false, not_true_eq_false, not_false_eq_true, ↓reduceIte, Option.bind_some, Option.map_some]) (by omega)
  have e1' : nI l2 + (1 : Int32) = nI (l2 + 1) := nI_1 l2
  rw [take3 hP4 D1 D2 D3 (fun q24 q25 q26 => ((p_r_node (nI 10) (nI a) q26.1 q25.1 q24.1 q26.2).bind fun q27 => (if q27.1 < 0 ∨ 3000 ≤ (q27.1).toNatClampNeg then none else (if q27.1 < 0 ∨ 3000 ≤ (q27.1).toNatClampNeg then none else ((p_r_give q27.1 (jx_i (jx_i q27.2 117 (q27.1).toNatClampNeg (nI l2)) 118 (q27.1).toNatClampNeg (nI l2 + (1 : Int32)))).bind fun q28 => (some (q28)))))))] at hst0
  rw [hnd, Option.bind_some] at hst0
  dsimp only at hst0
  rw [if_neg (nI_in (show n3 < 3000 by omega) (by omega)), if_neg (nI_in (show n3 < 3000 by omega) (by omega)), nI_clamp (show n3 < 2 ^ 31 by omega), e1', hgv, Option.bind_some] at hst0
  clear hnd hgv
  generalize gv (jx_i (jx_i (rnode (jx_i (jx_i (jx_i ρh 106 47 (nI (dn + 2))) 106 47 (nI (dn + 1))) 106 47 (nI dn)) n3 (nI 10) (nI a) (nI (n1 - 1)) (nI (n2 - 1)) (nI (n3 - 1)) (nI n)) 117 n3 (nI l2)) 118 n3 (nI (l2 + 1))) dn n3 = ρ7 at hnn hst0
  obtain ⟨τ15, G5, N1, N3, N5, N6, N7, ⟨N8, N8a⟩, N9, N10⟩ := hnn
  have N8b : gA G5 (n3 + 1 - 1) = 0 := N8a
  rw [show n1 - 1 + 1 = n1 by omega, show n2 - 1 + 1 = n2 by omega, show n3 - 1 + 1 = n3 by omega] at N1
  refine ⟨nI (n3 + 1), τ15, e1 + 1 + e2 + 1 + e3 + 1, ρ7, hcl2 _ (by rw [x4, z4, o4]; exact N1), RT_trans (RT_trans (RT_trans (RT_trans (RT_trans x2 hs1) z2) hs2) o2) (hs3 _ hst0), Or.inr ⟨a3, n3 + 1, l3, G5, by omega, rfl, by omega, by omega, by omega, by omega, N3, ?_, N6, N7, fun j hj => ?_, ?_⟩⟩
  · exact KP_trans (KP_trans (KP_trans (KP_trans (KP_trans (KP_trans (KP_trans (t := t) (t' := t + 1) KP_refl c6 (L _) (L _) (L _) (by omega) (L _)) KA (by omega) c4 (L _) (L _) (by omega)) d6 (by omega) c4 (L _) (by omega) (by omega)) KB (by omega) (by omega) (L _) (L _) (by omega)) f6 (by omega) (by omega) (by omega) (by omega) (by omega)) KC (by omega) (by omega) (L _) (L _) (by omega)) (N5 n l sc.length t (L _)) (L _) (L _) (L _) (L _) (L _)
  · rw [N8 j (by omega), f9 j (by omega), d9 j (by omega), c9 j hj]
  · have q7 : ∀ j, j < n3 → ρ7.1 112 j = ρ6.1 112 j := fun j hj => by rw [N10, u_ne (by omega), KC.2.1 112 (by decide) j hj]
    have q4 : ∀ j, j < n2 → ρ6.1 112 j = ρ4.1 112 j := fun j hj => by rw [f6.2.1 112 (by decide) j hj, KB.2.1 112 (by decide) j hj]
    have q2 : ∀ j, j < n1 → ρ4.1 112 j = ρ2.1 112 j := fun j hj => by rw [d6.2.1 112 (by decide) j hj, KA.2.1 112 (by decide) j hj]
    rw [N9, hq, f10, p9, h130_2, d10, w5, h130_1, c10, show n3 + 1 - n = (n3 - n) + 1 by omega, letc_no (fun q => by
      rw [show n + (n3 - n) = n3 by omega, N10, u_eq rfl] at q
      exact absurd q (by decide))]
    rw [show n3 - n = ((n1 - n) + (n2 - n1)) + (n3 - n2) by omega, letc_add, letc_add, show n + ((n1 - n) + (n2 - n1)) = n2 by omega, show n + (n1 - n) = n1 by omega, ← nI_add, ← nI_add, Int32.add_assoc, Int32.add_assoc, ← Int32.add_assoc (nI (letc (ρ2.1 112) n (n1 - n)))]
    rw [letc_congr (g := ρ2.1 112) (g' := ρ7.1 112) (n1 - n) (fun j hj => by rw [q7 _ (by omega), q4 _ (by omega), q2 _ (by omega)]), letc_congr (g := ρ4.1 112) (g' := ρ7.1 112) (n2 - n1) (fun j hj => by rw [q7 _ (by omega), q4 _ (by omega)]), letc_congr (g := ρ6.1 112) (g' := ρ7.1 112) (n3 - n2) (fun j hj => by rw [q7 _ (by omega)])]
/-- an expression, at every depth -/
theorem sim_expr (E : jEn) (f nf : Nat) : ∀ m dep, 31 ≤ dep + m → dep ≤ 30 → RecOK E f nf dep (p_cRea_readExpression m) := by
  intro m
  induction m with
  | zero => intro dep h1 h2; omega
  | succ m ih =>
    intro dep h1 h2
    refine ⟨fun x σ q => told_expr q m x, fun a n l sc G t dn τ ρ h h138 ht => ?_⟩
    have hb := PR_bounds h
    have hx1 : nI dep + 1 = nI (dep + 1) := nI_1 dep
    have L : ∀ x : Nat, x ≤ x := Nat.le_refl
    obtain ⟨hP, hKp, h130⟩ := PR_pop h
    have hB := h.2.2.1
    have hB0 := hP.2.2.1
    obtain ⟨kc, k1, k2, k3, k4, k5, k6⟩ := kind_ne hP
    have h48 := hB0.2.2.2.2.2.2.2.2.2.2
    have g6 := hP.2.1.2.2.1
    have one : ∀ ρ1, p_r_expression (jx_i ρ 106 45 (nI t)) = some ρ1 → RT f 1 ρ ρ1 := fun ρ1 q => RT_one hB.2.2.1 hB.2.2.2.2.2.2.2.2.1 (by omega) (by rw [h138, ro1]; exact q)
    rw [p_cRea_readExpression]
    by_cases hd : dep = 30
    · obtain ⟨hPd, hKd⟩ := PR_dep (dep + 1) hP
      obtain ⟨s1, s2, s3⟩ := stop_both (nI 3) (by decide) hPd
      refine ⟨0, _, 1, _, ?_, one _ ?_, Or.inl ⟨by omega, _, _, _, s3⟩⟩
      · unfold p_cRea_readExpression_b
        rw [if_neg (by rw [hd]; decide)]
        show ((p_cRea_tell (nI 3) τ).bind _) = _
        rw [s1, Option.bind_some]
      · unfold p_r_expression
        rw [h48, show nI dep + (1 : Int32) = nI (dep + 1) from nI_1 dep, if_neg (by rw [hd]; decide), k3]
        show ((p_r_stop (nI 3) (nI a) (jx_i (jx_i ρ 106 45 (nI t)) 106 48 (nI (dep + 1)))).bind _) = _
        rw [s2, Option.bind_some]
    have hrec := ih (dep + 1) (by omega) (by omega)
    obtain ⟨hPd, hKd⟩ := PR_dep (dep + 1) hP
    have hd29 : nI dep ≤ (29 : Int32) := (nI_le (by omega) (by omega) : nI dep ≤ nI 29)
    have hd30 : nI (dep + 1) ≤ (30 : Int32) := (nI_le (by omega) (by omega) : nI (dep + 1) ≤ nI 30)
    by_cases c5 : eK E a = 5
    · have e : p_cRea_readExpression_b (p_cRea_readExpression m) (nI dep) τ = p_cRea_readLet (p_cRea_readExpression m) (nI dep) τ := by
        unfold p_cRea_readExpression_b
        rw [if_pos hd29, k1, show kc = 5 by omega, if_pos (show nI 5 = 5 from rfl), ob_pr]
      rw [e]
      exact sim_let hrec h h138 c5 ht (by omega)
    by_cases c7 : eK E a = 7
    · obtain ⟨p1, p2, p3, p4, p5, p6⟩ := pass_ok hPd 7 c7 (by omega)
      obtain ⟨l1, l2, l3, l4, l5, l6, l7⟩ := PR_ltr (nI 4) (nI a) (nI 0) p5 (by omega)
      obtain ⟨m1, m2, m3, m4, m5, m6, m7⟩ := PR_ltr (nI 1) (nI 0) (nI 0) l2 (by omega)
      have hst : p_r_expression (jx_i ρ 106 45 (nI t)) = some (ltr (ltr (jx_i (jx_i (jx_i ρ 106 45 (nI t)) 106 48 (nI (dep + 1))) 106 40 (nI (a + 1))) t (nI 4) (nI a) (nI 0)) (t + 1) (nI 1) (nI 0) (nI 0)) := by
        unfold p_r_expression
        simp (disch := first | assumption | decide | omega) only [h48, k3, k2, c7, l1, m1, nI_lit, cT_lt, cF_lt, cT_le, cF_le, cT_eq, cF_eq, nF_le, mF_eq, mG_eq, mT_lt, eq_self, nI_clamp, nI_add, Nat.add_zero, nI_sub, s_i_ne, s_i_eq, s_i_2, s_l_1, s_l_ne, s_l_eq, s_p_ne, s_p_eq, s_p_2, s_q_1, s_q_ne, s_q_eq, u_ne, u_eq, v_ne, v_eq, w_ne, w_eq, jI_at_in, jL_at_in, false_or, or_false, true_or, or_true, true_and, and_true, false_and, and_false, not_true_eq_false, not_false_eq_true, ↓reduceIte, Option.bind_some, Option.map_some]
      have e : p_cRea_readExpression_b (p_cRea_readExpression m) (nI dep) τ = p_cRea_readIf (p_cRea_readExpression m) (nI dep) τ := by
        unfold p_cRea_readExpression_b
        rw [if_pos hd29, k1, show kc = 7 by omega, if_neg (by decide), if_pos (show nI 7 = 7 from rfl), ob_pr]
      rw [e]
      have hS := sim_if hrec p4 g6 p2 c7 m2 (by rw [m3.2.2.2.1 138 (by decide) t (by omega)]; exact l5) (by rw [m3.2.2.2.1 139 (by decide) t (by omega)]; exact l6) m5 ht (by omega) hb.2.2.1
      exact SimS_wrap hS (one _ hst) (KP_trans (KP_trans (KP_trans (KP_trans hKp (hKd _ _ _ _ _) (L _) (L _) (L _) (L _) (L _)) p6 (L _) (L _) (L _) (L _) (L _)) l3 (L _) (L _) (L _) (L _) (L _)) m3 (L _) (L _) (L _) (Nat.le_succ t) (L _)) (by rw [m4, l4, s_i_ne (by decide), s_i_ne (by decide), h130]) (L _) (by omega) (by omega)
    by_cases c10 : eK E a = 10
    · obtain ⟨p1, p2, p3, p4, p5, p6⟩ := pass_ok hPd 10 c10 (by omega)
      obtain ⟨l1, l2, l3, l4, l5, l6, l7⟩ := PR_ltr (nI 7) (nI a) (nI 0) p5 (by omega)
      obtain ⟨m1, m2, m3, m4, m5, m6, m7⟩ := PR_ltr (nI 1) (nI 0) (nI 0) l2 (by omega)
      have hst : p_r_expression (jx_i ρ 106 45 (nI t)) = some (ltr (ltr (jx_i (jx_i (jx_i ρ 106 45 (nI t)) 106 48 (nI (dep + 1))) 106 40 (nI (a + 1))) t (nI 7) (nI a) (nI 0)) (t + 1) (nI 1) (nI 0) (nI 0)) := by
        unfold p_r_expression
        simp (disch := first | assumption | decide | omega) only [h48, k3, k2, c10, l1, m1, nI_lit, cT_lt, cF_lt, cT_le, cF_le, cT_eq, cF_eq, nF_le, mF_eq, mG_eq, mT_lt, eq_self, nI_clamp, nI_add, Nat.add_zero, nI_sub, s_i_ne, s_i_eq, s_i_2, s_l_1, s_l_ne, s_l_eq, s_p_ne, s_p_eq, s_p_2, s_q_1, s_q_ne, s_q_eq, u_ne, u_eq, v_ne, v_eq, w_ne, w_eq, jI_at_in, jL_at_in, false_or, or_false, true_or, or_true, true_and, and_true, false_and, and_false, not_true_eq_false, not_false_eq_true, ↓reduceIte, Option.bind_some, Option.map_some]
      have e : p_cRea_readExpression_b (p_cRea_readExpression m) (nI dep) τ = p_cRea_readCase (p_cRea_readExpression m) (nI dep) τ := by
        unfold p_cRea_readExpression_b
        rw [if_pos hd29, k1, show kc = 10 by omega, if_neg (by decide), if_neg (by decide), if_pos (show nI 10 = 10 from rfl), ob_pr]
      rw [e]
      have hS := sim_case hrec p4 g6 p2 c10 m2 (by rw [m3.2.2.2.1 138 (by decide) t (by omega)]; exact l5) (by rw [m3.2.2.2.1 139 (by decide) t (by omega)]; exact l6) m5 ht (by omega) hb.2.2.1
      exact SimS_wrap hS (one _ hst) (KP_trans (KP_trans (KP_trans (KP_trans hKp (hKd _ _ _ _ _) (L _) (L _) (L _) (L _) (L _)) p6 (L _) (L _) (L _) (L _) (L _)) l3 (L _) (L _) (L _) (L _) (L _)) m3 (L _) (L _) (L _) (Nat.le_succ t) (L _)) (by rw [m4, l4, s_i_ne (by decide), s_i_ne (by decide), h130]) (L _) (by omega) (by omega)
    · obtain ⟨l1, l2, l3, l4, l5, l6, l7⟩ := PR_ltr (nI 21) (nI 0) (nI 0) hPd (by omega)
      obtain ⟨m1, m2, m3, m4, m5, m6, m7⟩ := PR_ltr (nI 18) (nI 0) (nI 0) l2 (by omega)
      obtain ⟨o1, o2, o3, o4, o5, o6, o7⟩ := PR_ltr (nI 10) (nI 0) (nI 0) m2 (by omega)
      have hst : p_r_expression (jx_i ρ 106 45 (nI t)) = some (ltr (ltr (ltr (jx_i (jx_i ρ 106 45 (nI t)) 106 48 (nI (dep + 1))) t (nI 21) (nI 0) (nI 0)) (t + 1) (nI 18) (nI 0) (nI 0)) (t + 1 + 1) (nI 10) (nI 0) (nI 0)) := by
        unfold p_r_expression
        simp (disch := first | assumption | decide | omega) only [h48, k3, k2, l1, m1, o1, nI_lit, cT_lt, cF_lt, cT_le, cF_le, cT_eq, cF_eq, nF_le, mF_eq, mG_eq, mT_lt, eq_self, nI_clamp, nI_add, Nat.add_zero, nI_sub, s_i_ne, s_i_eq, s_i_2, s_l_1, s_l_ne, s_l_eq, s_p_ne, s_p_eq, s_p_2, s_q_1, s_q_ne, s_q_eq, u_ne, u_eq, v_ne, v_eq, w_ne, w_eq, jI_at_in, jL_at_in, false_or, or_false, true_or, or_true, true_and, and_true, false_and, and_false, not_true_eq_false, not_false_eq_true, ↓reduceIte, Option.bind_some, Option.map_some]
      have e : p_cRea_readExpression_b (p_cRea_readExpression m) (nI dep) τ = p_cRea_readComparison (p_cRea_readExpression m) (nI dep) τ := by
        unfold p_cRea_readExpression_b
        rw [if_pos hd29, k1, if_neg (fun q => by have := (nI_eq (b := 5) (by omega) (by omega)).mp q; omega), if_neg (fun q => by have := (nI_eq (b := 7) (by omega) (by omega)).mp q; omega), if_neg (fun q => by have := (nI_eq (b := 10) (by omega) (by omega)).mp q; omega), ob_pr]
      rw [e]
      have hS := sim_cmp hrec o2 (by rw [o3.2.2.2.1 138 (by decide) t (by omega), m3.2.2.2.1 138 (by decide) t (by omega)]; exact l5) (by rw [o3.2.2.2.1 138 (by decide) (t + 1) (by omega)]; exact m5) o5 ht (by omega)
      exact SimS_wrap hS (one _ hst) (KP_trans (KP_trans (KP_trans (KP_trans hKp (hKd _ _ _ _ _) (L _) (L _) (L _) (L _) (L _)) l3 (L _) (L _) (L _) (L _) (L _)) m3 (L _) (L _) (L _) (Nat.le_succ t) (L _)) o3 (L _) (L _) (L _) (by omega) (L _)) (by rw [o4, m4, l4, s_i_ne (by decide), h130]) (L _) (by omega) (by omega)
