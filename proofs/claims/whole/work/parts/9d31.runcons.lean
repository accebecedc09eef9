/-! RUNS, 31: ticks: cons. -/
theorem cons_ty {F : Nat} {pN bN : Nat → Nat} {ty : Nat → Nat → Nat} {f : Nat} {W : Nat → Nat} {d : jDs} {k : Nat} (h : okT F pN bN ty f W d k) (hK : dK d = 14) : dM d = 2 ∧ W k = 1 ∧ W (dC d 0) = 0 ∧ W (dC d 1) = 1 := by
  unfold okT at h
  rcases h with h | h | h | h | ⟨_, h⟩ | h | h | h | h | h
  · omega
  · omega
  · omega
  · omega
  · exact h
  · omega
  · omega
  · omega
  · omega
  · omega
theorem c_cons {τ τ1 τ2 : jx_S} {x c0 c1 : Int32} {n : Nat} {a b : Int64} (h11 : τ.1 9 11 = nI n) (hn : n < 3000) (q0 : p_cTre_part x (0 : Int32) (jx_i τ 9 11 (nI (n + 1))) = some (c0, jx_i τ 9 11 (nI (n + 1)))) (r0 : p_cMac_putOff 33 c0 (0 : Int32) (jx_i τ 9 11 (nI (n + 1))) = some (a, τ1)) (q1 : p_cTre_part x (1 : Int32) (jL_put 3000 τ1 85 (nI n) a) = some (c1, jL_put 3000 τ1 85 (nI n) a)) (r1 : p_cMac_putOff 33 c1 (0 : Int32) (jL_put 3000 τ1 85 (nI n) a) = some (b, τ2)) : p_cMac_workCons x τ = p_cMac_finish (cV (2, nI n)) (jL_put 3000 τ2 87 (nI n) b) := by
  unfold p_cMac_workCons
  rw [h11, if_pos (show ¬ nI n = (3000 : Int32) from fun q => by have := (nI_eq (b := 3000) (by omega) (by omega)).1 q; omega), show nI n + (1 : Int32) = nI (n + 1) from (nI_succ n).symm, q0, Option.bind_some]
  show ((p_cMac_putOff 33 c0 (0 : Int32) (jx_i τ 9 11 (nI (n + 1)))).bind _) = _
  rw [r0, Option.bind_some]
  show ((p_cTre_part x (1 : Int32) (jL_put 3000 τ1 85 (nI n) a)).bind _) = _
  rw [q1, Option.bind_some]
  show ((p_cMac_putOff 33 c1 (0 : Int32) (jL_put 3000 τ1 85 (nI n) a)).bind _) = _
  rw [r1, Option.bind_some]
  rfl
theorem r_cons {ρ ρ1 : jx_S} {k b n c0 : Nat} {a : Int64} (h70 : ρ.1 106 70 = nI n) (hn : n < 3000) (hk : k < 1200) (h114 : ρ.1 114 k = nI c0) (r0 : p_r_putOff (nI c0) (nI b) (jx_i ρ 106 70 (nI (n + 1))) = some (a, ρ1)) : p_r_workCons (nI k) (nI b) ρ = if ¬ ρ1.1 106 87 = 0 then p_r_workCons_72 (nI n) (jx_l ρ1 155 n a) else (p_r_putOff (ρ1.1 115 k) (nI b) (jx_l ρ1 155 n a)).bind fun q3 => p_r_workCons_72 (nI n) (jx_l q3.2 156 n q3.1) := by
  have hni2 : ¬ (nI k < 0 ∨ 3000 ≤ k) := fun z => by
    rcases z with z | z
    · exact nI_pos (by omega) z
    · omega
  unfold p_r_workCons
  rw [h70, if_pos (show ¬ nI n = (3000 : Int32) from fun q => by have := (nI_eq (b := 3000) (by omega) (by omega)).1 q; omega), nI_clamp (show k < 2 ^ 31 by omega), if_neg hni2, h114, show nI n + (1 : Int32) = nI (n + 1) from (nI_succ n).symm, r0, Option.bind_some, if_neg (nI_in hn (by omega)), nI_clamp (show n < 2 ^ 31 by omega)]
  by_cases z : ¬ ρ1.1 106 87 = 0
  · rw [if_pos z, if_pos z]
  · rw [if_neg z, if_neg z, if_neg hni2]
    show ((p_r_putOff (ρ1.1 115 k) (nI b) (jx_l ρ1 155 n a)).bind _) = _
    congr 1
    funext q3
    rw [if_neg (show ¬ (nI n < 0 ∨ 3000 ≤ n) from fun z => by
      rcases z with z | z
      · exact nI_pos (by omega) z
      · omega)]
theorem CPC_0 {τ τ1 : jx_S} {v : Int32} (h : CPF (jx_i τ 9 11 v) τ1) : CPC τ τ1 := by
  refine ⟨fun r hr => ?_, fun j hj => ?_, fun j hj => ?_, fun r hr => ?_⟩
  · rw [h.1 r hr, s_i_ne (fun z => hr (by rw [z]; decide))]
  · rw [h.2.1 j hj, s_i_ne (by decide)]
  · simp only [List.mem_cons, List.not_mem_nil, or_false, not_or] at hj
    rw [h.2.2.1 j (fun z => by simp only [List.mem_cons, List.not_mem_nil, or_false] at z; omega), s_i_eq, u_ne hj.1]
  · simp only [List.mem_cons, List.not_mem_nil, or_false, not_or] at hr
    rw [h.2.2.2 r (fun z => by simp only [List.mem_cons, List.not_mem_nil, or_false] at z; omega), s_i_2]
theorem RPC_0 {ρ ρ1 : jx_S} {v : Int32} (h : RPF (jx_i ρ 106 70 v) ρ1) : RPC ρ ρ1 := by
  refine ⟨fun r hr => ?_, fun j hj => ?_, fun r hr => ?_⟩
  · rw [h.1 r hr, s_i_ne (fun z => hr (by rw [z]; decide))]
  · simp only [List.mem_cons, List.not_mem_nil, or_false, not_or] at hj
    rw [h.2.1 j (fun z => by simp only [List.mem_cons, List.not_mem_nil, or_false] at z; omega), s_i_eq, u_ne hj.2.1]
  · simp only [List.mem_cons, List.not_mem_nil, or_false, not_or] at hr
    rw [h.2.2 r (fun z => by simp only [List.mem_cons, List.not_mem_nil, or_false] at z; omega), s_i_2]
theorem CPC_1 {τ τ1 τ2 : jx_S} {i : Int32} {v : Int64} (h : CPC τ τ1) (k : CPF (jL_put 3000 τ1 85 i v) τ2) : CPC τ τ2 := by
  obtain ⟨k1, k2, k3, k4⟩ := CPC_of k
  refine ⟨fun r hr => (k1 r hr).trans (h.1 r hr), fun j hj => (k2 j hj).trans (h.2.1 j hj), fun j hj => (k3 j hj).trans (h.2.2.1 j hj), fun r hr => ?_⟩
  rw [k4 r hr, s_q_ne (fun z => hr (by rw [z]; decide)), h.2.2.2 r hr]
theorem RPC_1 {ρ ρ1 ρ2 : jx_S} {i : Nat} {v : Int64} (h : RPC ρ ρ1) (k : RPF (jx_l ρ1 155 i v) ρ2) : RPC ρ ρ2 := by
  obtain ⟨k1, k2, k4⟩ := RPC_of k
  refine ⟨fun r hr => (k1 r hr).trans (h.1 r hr), fun j hj => (k2 j hj).trans (h.2.1 j hj), fun r hr => ?_⟩
  rw [k4 r hr, s_l_ne (fun z => hr (by rw [z]; decide)), h.2.2 r hr]
theorem CPC_2 {τ τ2 : jx_S} {i : Int32} {v : Int64} (h : CPC τ τ2) : CPC τ (jL_put 3000 τ2 87 i v) := ⟨h.1, h.2.1, h.2.2.1, fun r hr => by rw [s_q_ne (fun z => hr (by rw [z]; decide)), h.2.2.2 r hr]⟩
theorem RPC_2 {ρ ρ2 : jx_S} {i : Nat} {v : Int64} (h : RPC ρ ρ2) : RPC ρ (jx_l ρ2 156 i v) := ⟨h.1, h.2.1, fun r hr => by rw [s_l_ne (fun z => hr (by rw [z]; decide)), h.2.2 r hr]⟩
theorem tick_cons {E : jEn} {G : jGh} {F : Nat} {nS pN bN lN' : Nat → Nat} {ty : Nat → Nat → Nat} {W : Nat → Nat} {D : Nat → jDs} {tk LO : Nat → Nat} {sl sp : Nat → Nat → Nat} {H : jHp} {S : jSt} {pd : Nat} {an : aV} {bt fc st lm go : Nat} {τ ρ : jx_S} (h : RUN E G F nS pN bN lN' ty W D tk LO sl sp H S pd an bt fc st lm go τ ρ) (hd : 0 < jSd S) (hk : dK (D (jSk S (jSd S - 1))) = 14) : ∃ τ' ρ', tk1 τ = some τ' ∧ p_r_go_0_s ρ = some (.inl ρ') ∧ NX E G F nS pN bN lN' ty W D tk LO sl sp S bt fc st lm go 1 τ' ρ' := by
  obtain ⟨e1, e2, hse, hF, hN, ⟨e3, e4, e5⟩, s1, s2, s3, k2, hsg, hk12⟩ := top_of h hd
  have hsg0 : jSg S (jSd S - 1) = 0 := by
    have h5 := hse.2.2.2.2.1
    unfold stgOK at h5
    omega
  have hpd := pd_0 h hd hsg0
  subst hpd
  have hA := hN.1
  obtain ⟨t1, t2, t3, t4⟩ := cons_ty hN.2.1 hk
  obtain ⟨ce1, ce2, ce3⟩ := h.1.2.1.2.1
  have hcn := h.1.2.2.2.2.1.2.2.2.1.1
  have hwo : tk1 τ = p_cMac_workCons (nI (jSk S (jSd S - 1) + 1)) τ := by
    rw [e1, c_wo hA hsg, hsg0, if_neg (by omega), hk, if_neg (by decide), if_neg (by decide), if_neg (by decide), if_neg (by decide), if_neg (by decide), if_pos (show nI 14 = (14 : Int32) from rfl)]
    cases p_cMac_workCons (nI (jSk S (jSd S - 1) + 1)) τ <;> rfl
  have hgo : p_r_go_0_s ρ = (p_r_workCons (nI (jSk S (jSd S - 1))) (nI (jFb H (jSf S (jSd S - 1)))) ρ).bind fun q => some (.inl q) := by
    rw [r_goh s2 hd s3 k2 e3 hk12 e4 hA.2.2.2.2.2.1, hk, if_neg (show ¬ 28 ≤ 14 by omega), if_neg (by decide), if_neg (by decide), if_neg (by decide), if_neg (by decide), if_neg (by decide), if_neg (by decide), if_pos (show nI 14 = (14 : Int32) from rfl)]
    rfl
  rw [hwo, hgo]
  clear hwo hgo
  by_cases zf : jCn H = 3000
  · refine ⟨_, _, ?_, ?_, Or.inl ⟨H, EN_now h.1 5 (by omega) (by omega)⟩⟩
    · have : p_cMac_workCons (nI (jSk S (jSd S - 1) + 1)) τ = some (jx_i τ 8 14 5) := by
        unfold p_cMac_workCons
        rw [ce1, zf, if_neg (fun q => q rfl)]
      exact this
    · have : p_r_workCons (nI (jSk S (jSd S - 1))) (nI (jFb H (jSf S (jSd S - 1)))) ρ = some (jx_i ρ 106 87 5) := by
        unfold p_r_workCons
        rw [ce2, zf, if_neg (fun q => q rfl)]
      rw [this]; rfl
  · have hlt : jCn H < 3000 := by omega
    have h2' := RU2_of (RU1_of h.1)
    have hun : unus (dK (D (jSk S (jSd S - 1)))) (dM (D (jSk S (jSd S - 1)))) (jSg S (jSd S - 1)) = 0 := by
      rw [hsg0]; unfold unus; rw [if_neg (by omega), if_neg (by omega)]
    rw [hun] at h2'
    have hP0 := PO_of2 h2' hd
    have hP0' : PO E G F nS pN bN lN' ty W D tk LO sl sp H (jSf S (jSd S - 1)) (fun x => x < jAn H) 0 (jx_i τ 9 11 (nI (jCn H + 1))) (jx_i (jx_i ρ 106 70 (nI (jCn H + 1))) 106 101 (nI 0)) := PO_cel hP0 (fun r hr => s_i_ne hr) (fun j hj => by rw [s_i_eq, u_ne hj]) (fun _ _ _ => rfl) (fun r hr => by rw [s_i_ne hr, s_i_ne hr, s_i_ne hr]) (fun j hj => by
        rw [s_i_eq, s_i_eq, s_i_eq]
        by_cases z : j = 101
        · rw [u_eq z, u_eq z]
        · rw [u_ne z, u_ne z, u_ne hj]) (fun _ _ _ => rfl)
    have hpre0 := PRe_top h2' hd (Nat.le_refl 0) (show 0 < dM (D (jSk S (jSd S - 1))) by omega) (fun s q => by unfold bnd at q; omega)
    have hpre1 := PRe_top h2' hd (Nat.zero_le 1) (show 1 < dM (D (jSk S (jSd S - 1))) by omega) (fun s q => by unfold bnd at q; omega)
    obtain ⟨ki, ko⟩ := kid_ord (h.1.1.2.2 _ hF) hse.1.2.1 hse.1.2.2
    have ko01 := ko 0 1 (by omega) (by omega)
    have ki0 := ki 0 (by omega)
    have ki1 := ki 1 (by omega)
    have hlo1 : LO (dC (D (jSk S (jSd S - 1))) 1) = dC (D (jSk S (jSd S - 1))) 0 + 1 := by
      obtain ⟨_, _, _, _, _, _, _, _, _, _, _, hkid, _⟩ := id hN
      have := (hkid 1 (by omega)).2.1
      rw [if_neg (by omega)] at this
      exact this
    have hN0 := (hP0'.1.2.2 _ hF).2.2.2.2 _ hse.1.2.1 hse.1.2.2
    have q0 := c_kid (i := 0) hN0.1 (by omega)
    have h114 : ρ.1 114 (jSk S (jSd S - 1)) = nI (dC (D (jSk S (jSd S - 1))) 0) := hA.2.2.2.2.2.2.2.2.2.1 (by omega)
    have h115 : ρ.1 115 (jSk S (jSd S - 1)) = nI (dC (D (jSk S (jSd S - 1))) 1) := hA.2.2.2.2.2.2.2.2.2.2.1 (by omega) (by omega)
    rcases put_off hP0' hpre0 with ⟨a, τ1, ρ1, H1, r1, r2, y1, y2, y3, y4, y5, y6, y7, _⟩ | ⟨v, y, τ1, ρ1, H1, r1, r2, y1, y2, y3, y4, y5, y6⟩
    · have hC1 := CPC_0 y1
      have hR1 := RPC_0 y2
      have hrc := r_cons ce2 hlt hk12 h114 r2
      rw [y7.2.2.2.2.2.1.2.1, if_neg (fun q => q rfl)] at hrc
      have h115' : ρ1.1 115 (jSk S (jSd S - 1)) = nI (dC (D (jSk S (jSd S - 1))) 1) := by rw [hR1.1 115 (by decide)]; exact h115
      rw [h115'] at hrc
      have hP1' : PO E G F nS pN bN lN' ty W D tk LO sl sp H1 (jSf S (jSd S - 1)) (fun x => x < jAn H1) 0 (jL_put 3000 τ1 85 (nI (jCn H)) (cV a)) (jx_i (jx_l ρ1 155 (jCn H) (rV a)) 106 101 (nI 0)) := PO_cel (PO_q (q' := 0) y7) (fun _ _ => rfl) (fun _ _ => rfl) (fun r q _ => s_q_ne q) (fun _ _ => rfl) (fun _ _ => rfl) (fun r q _ => by
        show (jx_l ρ1 155 (jCn H) (rV a)).2 r = ρ1.2 r
        rw [s_l_ne q])
      have hpre1' := PRe_on hpre1 y4 y5 ko01
      obtain ⟨eFn1, eFb1, eFf1, _⟩ := HQ_f y4
      have hN1 := (hP1'.1.2.2 _ (show jFf H1 (jSf S (jSd S - 1)) < F by rw [eFf1]; exact hF)).2.2.2.2 (jSk S (jSd S - 1)) (by rw [eFf1]; exact hse.1.2.1) (by rw [eFf1]; exact hse.1.2.2)
      have q1 := c_kid (i := 1) hN1.1 (by omega)
      have hpo2 := put_off hP1' hpre1'
      rw [eFb1] at hpo2
      rcases hpo2 with ⟨b, τ2, ρ2, H2, r3, r4, z1, z2, z3, z4, z5, z6, z7, _⟩ | ⟨v, y, τ2, ρ2, H2, r3, r4, z1, z2, z3, z4, z5, z6⟩
      · rw [r4, Option.bind_some] at hrc
        have hcc := c_cons ce1 hlt q0 r1 q1 r3
        have hC2 : CPC τ (jL_put 3000 τ2 87 (nI (jCn H)) (cV b)) := CPC_2 (CPC_1 hC1 z1)
        have hR2 : RPC ρ (jx_l ρ2 156 (jCn H) (rV b)) := RPC_2 (RPC_1 hR1 z2)
        have hQ := HQ_trans y4 z4
        have hQ0 : HQc H H2 := HQc_of hQ
        have hQc : HQc H (hCell H2 a b) := hQ0
        have eCn : jCn H2 = jCn H := (HQ_f hQ).2.2.2.2.2.1
        have hP2' : PO E G F nS pN bN lN' ty W D tk LO sl sp H2 (jSf S (jSd S - 1)) (fun x => x < jAn H2) 0 (jL_put 3000 τ2 87 (nI (jCn H)) (cV b)) (jx_l ρ2 156 (jCn H) (rV b)) := PO_cel z7 (fun _ _ => rfl) (fun _ _ => rfl) (fun r _ q => s_q_ne q) (fun _ _ => rfl) (fun _ _ => rfl) (fun r _ q => s_l_ne q)
        have hP3 := PO_cell (a := a) (b := b) hP2' (by omega) (VT_grow z3 (by rw [← t3]; exact y6)) (by rw [← t4]; exact z6)
        have hce : RCe (hCell H2 a b) (jL_put 3000 τ2 87 (nI (jCn H)) (cV b)) (jx_l ρ2 156 (jCn H) (rV b)) := by
          have eCf : jCf H2 = jCf H ∧ jCs H2 = jCs H := by
            unfold jCf jCs
            rw [hQ.1]; exact ⟨rfl, rfl⟩
          refine ⟨?_, ?_, fun c hc => ?_⟩
          · show τ2.1 9 11 = nI (jCn H2 + 1)
            rw [eCn, z1.2.2.1 11 (by decide)]
            show τ1.1 9 11 = _
            rw [y1.2.2.1 11 (by decide), s_i_eq, u_eq rfl]
          · show ρ2.1 106 70 = nI (jCn H2 + 1)
            rw [eCn, z2.2.1 70 (by decide)]
            show ρ1.1 106 70 = _
            rw [y2.2.1 70 (by decide), s_i_eq, u_eq rfl]
          · have hc' : c < jCn H2 + 1 := hc
            show ((jL_put 3000 τ2 87 (nI (jCn H)) (cV b)).2 85 c = cV (if c = jCn H2 then a else jCf H2 c) ∧ (jx_l ρ2 156 (jCn H) (rV b)).2 155 c = rV (if c = jCn H2 then a else jCf H2 c)) ∧ (jL_put 3000 τ2 87 (nI (jCn H)) (cV b)).2 87 c = cV (if c = jCn H2 then b else jCs H2 c) ∧ (jx_l ρ2 156 (jCn H) (rV b)).2 156 c = rV (if c = jCn H2 then b else jCs H2 c)
            rw [eCn, eCf.1, eCf.2, s_q_ne (show (85 : Nat) ≠ 87 by decide), s_l_ne (show (155 : Nat) ≠ 156 by decide), s_q_eq, s_l_eq, jL_up_in (by omega) (by omega), z1.2.2.2 85 (by decide), z2.2.2 155 (by decide), s_q_eq, s_l_eq, jL_up_in (by omega) (by omega), z1.2.2.2 87 (by decide), z2.2.2 156 (by decide), s_q_ne (show (87 : Nat) ≠ 85 by decide), s_l_ne (show (156 : Nat) ≠ 155 by decide), y1.2.2.2 87 (by decide), y2.2.2 156 (by decide), y1.2.2.2 85 (by decide), y2.2.2 155 (by decide)]
            by_cases z : c = jCn H
            · rw [if_pos z, if_pos z, v_eq z, v_eq z, v_eq z, v_eq z]
              exact ⟨⟨rfl, rfl⟩, rfl, rfl⟩
            · rw [if_neg z, if_neg z, v_ne z, v_ne z, v_ne z, v_ne z]
              exact ce3 c (by omega)
        have h3 := RU2_put (u' := 2) (lo := LO (dC (D (jSk S (jSd S - 1))) 0)) (hi := dC (D (jSk S (jSd S - 1))) 1) h2' hd hC2 hR2 (HX_trans y3 (HX_trans z3 HX_cell)) hQc (fun c ψ hn => by
          show jOw H2 c ψ = jOw H c ψ
          rw [z5 _ _ (fun q => hn ⟨q.1, by omega, q.2.2⟩), y5 _ _ (fun q => hn ⟨q.1, q.2.1, by omega⟩)]) (fun x q1 q2 => by
          by_cases z : x ≤ dC (D (jSk S (jSd S - 1))) 0
          · exact hpre0.2.2.2.2 x q1 z
          · exact hpre1.2.2.2.2 x (by omega) q2) (fun i q1 q2 => by omega) (by omega) hce hP3
        obtain ⟨w1, w2, w3, w4, w5, w6⟩ := h.1.2.2.1.2.2 (jSd S - 1) (by omega)
        have h4 := RU1_close h3 hd (by rw [hC2.1 79 (by decide)]; exact w3.1) (by rw [hR2.1 163 (by decide)]; exact w3.2) (by rw [hR2.2.1 85 (by decide)]; exact h.1.2.2.1.2.1) (by unfold keptS; exact kept_n (by omega)) (by omega)
        obtain ⟨ρ', f1, f2, f3⟩ := run_fin (v := (2, nI (jCn H))) h4 hd (BZ_put h.2.1.2.2.2.2 hQc) (by unfold keptS; exact kept_n (by omega)) (show 2 < 3 by omega) (Or.inr (Or.inr (Or.inl ⟨rfl, t2, jCn H, (show jCn H < jCn H2 + 1 by omega), rfl⟩)))
        have hm := mea_pop (st := st) (lm := lm) hd
        rw [hsg0] at hm
        refine ⟨_, ρ', hcc.trans f1, ?_, Or.inr ⟨_, _, _, _, st, f3, ?_⟩⟩
        · rw [hrc]
          unfold p_r_workCons_72
          rw [show (jx_l ρ2 156 (jCn H) (rV b)).1 106 87 = 0 from z7.2.2.2.2.2.1.2.1, if_neg (fun q => q rfl), show v_r_tagged (2 : Int64) (nI (jCn H)) (jx_l ρ2 156 (jCn H) (rV b)) = rV (2, nI (jCn H)) from rfl, f2]
          rfl
        · have : remS 0 = 18 := rfl
          omega
      · rw [r4, Option.bind_some] at hrc
        have hcc := c_cons ce1 hlt q0 r1 q1 r3
        have hQ := HQ_trans y4 z5
        have hEN := EN_put h2' (CPC_1 hC1 z1) (RPC_1 hR1 z2) (HQc_of hQ) hQ.2.2.2.2.2.2 z3 z4 (by
          rw [z1.2.2.1 11 (by decide), z2.2.1 70 (by decide)]
          show τ1.1 9 11 = ρ1.1 106 70
          rw [y1.2.2.1 11 (by decide), y2.2.1 70 (by decide), s_i_eq, u_eq rfl, s_i_eq, u_eq rfl]) z6
        refine ⟨_, _, hcc.trans rfl, ?_, Or.inl ⟨H2, EN_keep hEN (ρ' := jx_l ρ2 156 (jCn H) y) ?_ ?_ ?_ rfl⟩⟩
        · rw [hrc]
          unfold p_r_workCons_72
          rw [show (jx_l ρ2 156 (jCn H) y).1 106 87 = 5 from z4, if_pos (by decide)]
          rfl
        · rw [s_i_eq, u_ne (by decide)]; rfl
        · rw [s_i_ne (by decide)]; rfl
        · rw [s_i_ne (by decide)]; rfl
    · have hrc := r_cons ce2 hlt hk12 h114 r2
      rw [y4, if_pos (by decide)] at hrc
      have hN1 : AN E (jL_put 3000 τ1 85 (nI (jCn H)) v) ρ (jSk S (jSd S - 1)) (tk (jSk S (jSd S - 1))) (D (jSk S (jSd S - 1))) := by
        have hr : RP E G F nS pN bN lN' ty W D tk LO sl sp (jL_put 3000 τ1 85 (nI (jCn H)) v) ρ := RP_keep h.1.1 (fun r hr => by
          show τ1.1 r = τ.1 r
          exact (CPC_0 y1).1 r (by revert hr; revert r; decide)) (by
          rw [s_q_ne (by decide)]
          exact (CPC_0 y1).2.2.2 19 (by decide)) (fun _ _ => rfl)
        exact ((hr.2.2 _ hF).2.2.2.2 _ hse.1.2.1 hse.1.2.2).1
      have q1 := c_kid (i := 1) hN1 (by omega)
      have hcc := c_cons ce1 hlt q0 r1 q1 (c_po5 (show (jL_put 3000 τ1 85 (nI (jCn H)) v).1 8 14 = 5 from y3))
      have hEN := EN_put h2' (CPC_0 y1) (RPC_0 y2) (HQc_of y5) y5.2.2.2.2.2.2 y3 y4 (by
        rw [y1.2.2.1 11 (by decide), y2.2.1 70 (by decide), s_i_eq, u_eq rfl, s_i_eq, u_eq rfl]) y6
      refine ⟨_, _, hcc.trans rfl, ?_, Or.inl ⟨H1, EN_keep hEN (ρ' := jx_l ρ1 155 (jCn H) y) ?_ ?_ ?_ rfl⟩⟩
      · rw [hrc]
        unfold p_r_workCons_72
        rw [show (jx_l ρ1 155 (jCn H) y).1 106 87 = 5 from y4, if_pos (by decide)]
        rfl
      · rw [s_i_eq, u_ne (by decide)]; rfl
      · rw [s_i_ne (by decide)]; rfl
      · rw [s_i_ne (by decide)]; rfl
