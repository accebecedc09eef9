/-! RUNS, 42: ticks: a call. -/
theorem tks_1 {τ τ' : jx_S} (h1 : τ.1 8 14 = 0) (h2 : ¬ τ.1 8 11 ≤ 0) (h3 : tk1 τ = some τ') : tks 1 τ τ' := ⟨τ', h1, h2, h3, rfl⟩
/-- the reference goes to the atom -/
theorem r_146 {ρ : jx_S} {t k b m i : Nat} {x6 : Int32} {cs : Nat → Nat} (hi : i ≤ m) (hm : m ≤ 8) (hcs : ∀ j, j < m → cs j < 1200) (h120 : ∀ j, j + 1 < m → ρ.1 120 (cs j) = nI (cs (j + 1))) (x7 : Int32) (h7 : 0 < m → x7 = nI (cs 0)) : ∃ y7, p_r_workName_146 (nI t) (nI k) (nI b) (nI m) (nI i) x6 x7 0 ρ = p_r_workName_168 (nI t) (nI k) (nI b) (nI m) (nI i) x6 y7 ρ ∧ (i < m → y7 = nI (cs i)) := by
  unfold p_r_workName_146
  obtain ⟨s1, ⟨y7, rfl, h1⟩, e⟩ := loop_invx (f := fun s : Int32 × Int32 × Int32 × Int32 × Int32 × Int32 × Int32 × Int32 × jx_S => p_r_workName_146_s s.1 s.2.1 s.2.2.1 s.2.2.2.1 s.2.2.2.2.1 s.2.2.2.2.2.1 s.2.2.2.2.2.2.1 s.2.2.2.2.2.2.2.1 s.2.2.2.2.2.2.2.2) (fun j s => ∃ y7, s = (nI t, nI k, nI b, nI m, nI i, x6, y7, nI j, ρ) ∧ (j < m → y7 = nI (cs j))) i (fun j s hj h => by
    obtain ⟨y7, rfl, h1⟩ := h
    show ∃ s1, p_r_workName_146_s (nI t) (nI k) (nI b) (nI m) (nI i) x6 y7 (nI j) ρ = _ ∧ _
    have hc := hcs j (by omega)
    unfold p_r_workName_146_s
    rw [if_neg (nI_ge hj (by omega)), h1 (by omega), if_neg (nI_in (show cs j < 3000 by omega) (by omega)), nI_clamp (show cs j < 2 ^ 31 by omega)]
    exact ⟨_, rfl, ρ.1 120 (cs j), by rw [← nI_succ], fun q => h120 j q⟩) (s := (nI t, nI k, nI b, nI m, nI i, x6, x7, (0 : Int32), ρ)) ⟨x7, rfl, h7⟩ (X := fun s => p_r_workName_168 (nI t) (nI k) (nI b) (nI m) (nI i) x6 s.2.2.2.2.2.2.1 ρ) (fun s hs => by
    obtain ⟨y7, rfl, h1⟩ := hs
    show p_r_workName_146_s (nI t) (nI k) (nI b) (nI m) (nI i) x6 y7 (nI i) ρ = _
    unfold p_r_workName_146_s
    rw [if_pos (nI_le (Nat.le_refl _) (by omega))]) (n := 100000000) (by omega)
  exact ⟨y7, e, h1⟩
theorem tick_call {E : jEn} {G : jGh} {F : Nat} {nS pN bN lN' : Nat → Nat} {ty : Nat → Nat → Nat} {W : Nat → Nat} {D : Nat → jDs} {tk LO : Nat → Nat} {sl sp : Nat → Nat → Nat} {H : jHp} {S : jSt} {pd : Nat} {an : aV} {bt fc st lm go : Nat} {τ ρ : jx_S} (h : RUN E G F nS pN bN lN' ty W D tk LO sl sp H S pd an bt fc st lm go τ ρ) (hd : 0 < jSd S) (hk : dK (D (jSk S (jSd S - 1))) = 29) (hn100 : jSg S (jSd S - 1) ≠ 100) : ∃ j τ' ρ', 0 < j ∧ j ≤ 10 ∧ tks j τ τ' ∧ p_r_go_0_s ρ = some (.inl ρ') ∧ NX E G F nS pN bN lN' ty W D tk LO sl sp S bt fc st lm go j τ' ρ' := by
  obtain ⟨e1, e2, hse, hF, hN, ⟨e3, e4, e5⟩, s1, s2, s3, k2, hsg, hk12⟩ := top_of h hd
  obtain ⟨hA, hT, _⟩ := id hN
  obtain ⟨g1, g2, g3, g4⟩ := call_ty hT hk
  have hp8 := (h.1.1.2.2 _ g1).2.1.1
  have hm8 : dM (D (jSk S (jSd S - 1))) ≤ 8 := by omega
  have hF40 := h.1.1.1
  have hpd : pd = 0 := by
    rcases h.2.1.2.1 hd with q | q
    · exact q.2
    · exact q.1.2.2 (fun z => by omega)
  subst hpd
  have hz := h.2.1.2.2.2.2
  have h14 := h.1.2.2.2.1.1
  have hni : ¬ (nI (jSd S - 1) < 0 ∨ 251 ≤ jSd S - 1) := fun z => by
    rcases z with z | z
    · exact nI_pos (by omega) z
    · omega
  have hni2 : ¬ (nI (jSk S (jSd S - 1)) < 0 ∨ 3000 ≤ jSk S (jSd S - 1)) := fun z => by
    rcases z with z | z
    · exact nI_pos (by omega) z
    · omega
  obtain ⟨b1, b2, b3⟩ := hA.2.2.2.2.2.2.2.2.2.2.2.2.1 (by omega)
  obtain ⟨c1, c2, c3⟩ := hA.2.2.2.2.2.2.2.2.2.2.2.2.2.2.1 hk
  have h11 : ¬ τ.1 8 11 ≤ 0 := by rw [s1]; exact nI_nle (by omega) (by omega)
  have hcs : ∀ j, j < dM (D (jSk S (jSd S - 1))) → dC (D (jSk S (jSd S - 1))) j < 1200 := fun j hj => by have := hA.2.2.1 j hj; omega
  have hgo : p_r_go_0_s ρ = (p_r_workName_84 (nI (jSd S - 1)) (nI (jSk S (jSd S - 1))) (nI (jFb H (jSf S (jSd S - 1)))) (nI (dM (D (jSk S (jSd S - 1))))) (ρ.1 163 (jSd S - 1)) 1 ρ).bind fun q => some (.inl q) := by
    have hne : ¬ ρ.1 163 (jSd S - 1) = (1000 : Int32) := by
      rw [e5]
      intro q
      have : rstg (dK (D (jSk S (jSd S - 1)))) (jSg S (jSd S - 1)) < 1000 := by
        unfold rstg
        rw [if_neg hn100]
        split <;> omega
      have := (nI_eq (b := 1000) (by omega) (by omega)).1 q
      omega
    have h37 : p_r_workName_37 (nI (jSd S - 1)) (nI (jSk S (jSd S - 1))) (nI (jFb H (jSf S (jSd S - 1)))) ρ = p_r_workName_84 (nI (jSd S - 1)) (nI (jSk S (jSd S - 1))) (nI (jFb H (jSf S (jSd S - 1)))) (nI (dM (D (jSk S (jSd S - 1))))) (ρ.1 163 (jSd S - 1)) 1 ρ := by
      unfold p_r_workName_37
      rw [nI_clamp (show jSk S (jSd S - 1) < 2 ^ 31 by omega), if_neg hni2, nI_clamp (show jSd S - 1 < 2 ^ 31 by omega), if_neg hni, if_pos hne, if_neg hni2, c1, if_neg (by decide), b1]
    rw [r_goh s2 hd s3 k2 e3 hk12 e4 hA.2.2.2.2.2.1, hk, if_pos (show 28 ≤ 29 by omega), if_pos (show nI 1 = (1 : Int32) from rfl)]
    unfold p_r_workName
    rw [nI_clamp (show jSk S (jSd S - 1) < 2 ^ 31 by omega), if_neg hni2, if_neg hni2, c1, if_pos (show (-1 : Int32) < 0 by decide), h37]
    by_cases z : ¬ ρ.1 119 (jSk S (jSd S - 1)) = 0
    · rw [if_pos z]; rfl
    · rw [if_neg z]; rfl
  have h168 : ∀ i y7 (ρ1 ρ' : jx_S) (d : Nat), d ≤ 8 → (∀ N, jx_loop (N + d + 1) r168 (nI (jSd S - 1), nI (jSk S (jSd S - 1)), nI (jFb H (jSf S (jSd S - 1))), nI (dM (D (jSk S (jSd S - 1)))), nI i, 1, y7, ρ1) = some ρ') → p_r_workName_168 (nI (jSd S - 1)) (nI (jSk S (jSd S - 1))) (nI (jFb H (jSf S (jSd S - 1)))) (nI (dM (D (jSk S (jSd S - 1))))) (nI i) 1 y7 ρ1 = some ρ' := fun i y7 ρ1 ρ' d hd' q => by
    unfold p_r_workName_168
    have := q (100000000 - d - 1)
    rw [show 100000000 - d - 1 + d + 1 = 100000000 by omega] at this
    exact this
  have h5 := hse.2.2.2.2.1
  rw [hgo]
  clear hgo
  obtain ⟨w1, w2, w3, w4, w5, w6⟩ := h.1.2.2.1.2.2 (jSd S - 1) (by omega)
  have h2' := RU2_of (RU1_of h.1)
  have hsum : sumN (keptS D S) (jSd S) = sumN (keptS D S) (jSd S - 1) + keptS D S (jSd S - 1) := by
    have e : sumN (keptS D S) (jSd S - 1 + 1) = sumN (keptS D S) (jSd S - 1) + keptS D S (jSd S - 1) := rfl
    rw [show jSd S - 1 + 1 = jSd S by omega] at e
    exact e
  have h85 := h.1.2.2.1.2.1
  rw [hsum] at h85
  have hsgc : jSg S (jSd S - 1) = 0 ∨ ∃ i, jSg S (jSd S - 1) = 2 * i + 1 ∧ i < dM (D (jSk S (jSd S - 1))) := by
    unfold stgOK at h5
    by_cases z : jSg S (jSd S - 1) = 0
    · exact Or.inl z
    · exact Or.inr ⟨jSg S (jSd S - 1) / 2, by omega, by omega⟩
  rcases hsgc with hsg0 | ⟨i, hsgi, hi⟩
  · have hun0 : unus (dK (D (jSk S (jSd S - 1)))) (dM (D (jSk S (jSd S - 1)))) (jSg S (jSd S - 1)) = 0 := by
      rw [hsg0]; unfold unus; rw [if_neg (by omega), if_neg (by omega)]
    rw [hun0] at h2'
    have hk0 : keptS D S (jSd S - 1) = 0 := by unfold keptS; rw [hsg0]; exact kept_0 _
    have er : rstg (dK (D (jSk S (jSd S - 1)))) 0 = 0 := by unfold rstg; rw [if_neg (by omega), if_neg (by omega)]
    rw [hsg0, er] at e5
    obtain ⟨y7, z1, z2⟩ := r_146 (ρ := ρ) (t := jSd S - 1) (k := jSk S (jSd S - 1)) (b := jFb H (jSf S (jSd S - 1))) (m := dM (D (jSk S (jSd S - 1)))) (i := 0) (x6 := 1) (cs := dC (D (jSk S (jSd S - 1)))) (Nat.zero_le _) hm8 hcs b3 (ρ.1 114 (jSk S (jSd S - 1))) (fun q => hA.2.2.2.2.2.2.2.2.2.1 q)
    obtain ⟨j, τ', ρ', tj, tj2, t1, t2, t3⟩ := call_sim (m := dM (D (jSk S (jSd S - 1)))) hd hk rfl (dM (D (jSk S (jSd S - 1)))) 0 H (fun _ => (0, 0)) (jFb H (jSf S (jSd S - 1))) y7 τ ρ (by omega) (Nat.zero_le _) rfl ⟨h2', hz, by rw [w3.1, hsg0], by rw [h85, hk0], fun j hj => by omega⟩ (fun _ => hsg0) z2
    refine ⟨j, τ', ρ', tj, by omega, t1, ?_, ?_⟩
    · rw [e5]
      unfold p_r_workName_84 p_r_workName_135
      rw [if_pos (show nI 0 < (500 : Int32) by decide), nI_clamp (show jSk S (jSd S - 1) < 2 ^ 31 by omega), if_neg hni2, z1, h168 _ _ _ _ _ hm8 t2]
      rfl
    · rcases t3 with t3 | ⟨H', S', pd', an', st', t3, t4⟩
      · exact Or.inl t3
      · refine Or.inr ⟨H', S', pd', an', st', t3, ?_⟩
        have hms := mea_set (S := S) (st := st) (lm := lm) (sg := 2 * 0) hd
        rw [hsg0] at hms
        have : remS (2 * 0) = remS 0 := rfl
        omega
  · have hki : keptS D S (jSd S - 1) = i := by unfold keptS kept; rw [if_pos ⟨hk, by omega⟩]; omega
    have hun : unus (dK (D (jSk S (jSd S - 1)))) (dM (D (jSk S (jSd S - 1)))) (jSg S (jSd S - 1)) = i + 1 := by
      rw [hsgi]; unfold unus; rw [if_neg (by omega), if_pos ⟨hk, by omega⟩]; omega
    rw [hun] at h2'
    have er : rstg (dK (D (jSk S (jSd S - 1)))) (2 * i + 1) = 500 + i := by
      unfold rstg; rw [if_neg (by omega), if_pos ⟨hk, by omega⟩, show (2 * i + 1) / 2 = i by omega]
    rw [hsgi, er] at e5
    obtain ⟨a1, a2⟩ := h.2.2 (Or.inr (by omega))
    obtain ⟨u1, u2, u3⟩ : SW W D H S (jSd S - 1) 0 ∧ an.1 < 3 ∧ VT F pN bN ty W H (xtyp W D (jSk S (jSd S - 1)) (jSg S (jSd S - 1))) an := by
      rcases h.2.1.2.1 hd with q | q
      · omega
      · exact q
    have hxt : xtyp W D (jSk S (jSd S - 1)) (jSg S (jSd S - 1)) = ty (dG (D (jSk S (jSd S - 1)))) i := by
      rw [hsgi]
      unfold xtyp
      rw [if_neg (by omega), if_pos hk, show (2 * i + 1) / 2 = i by omega]
      exact g4 i hi
    rw [hxt] at u3
    have hs2000 := sum_kept h.1.1 h.1.2.2.2.2.1 h2'.2.2.2.2.2.1 s3
    rw [hki] at h85
    have hkv : ∀ j, j < i → τ.2 81 (8 * (jSd S - 1) + j) = cV (jSw S (jSd S - 1) j) ∧ ρ.2 166 (sumN (keptS D S) (jSd S - 1) + j) = rV (jSw S (jSd S - 1) j) ∧ VT F pN bN ty W H (ty (dG (D (jSk S (jSd S - 1)))) j) (jSw S (jSd S - 1) j) := fun j hj => by
      obtain ⟨v1, v2⟩ := w5 j (by omega)
      exact ⟨v1, v2, hse.2.2.2.2.2.2.2.2 j (by omega)⟩
    obtain ⟨x1, x2⟩ := half (2 * i + 1) (by omega)
    rw [show (2 * i + 1) / 2 = i by omega] at x1
    rw [show (2 * i + 1) % 2 = 1 by omega] at x2
    have ht1 : tk1 τ = some (jI_put 250 (jL_put 2000 τ 81 (nI (8 * (jSd S - 1) + i)) (cV an)) 79 (nI (jSd S - 1)) (nI (2 * (i + 1)))) := by
      rw [e1, c_wo hA hsg, if_neg hn100, hk, if_neg (by decide), if_neg (by decide), if_neg (by decide), if_neg (by decide), if_neg (by decide), if_neg (by decide), if_neg (by decide), if_neg (by decide), if_pos (show nI 29 = (29 : Int32) from rfl), hsgi]
      unfold p_cMac_workCall
      rw [x2, if_neg (show ¬ ¬ nI 1 = (1 : Int32) from fun q => q rfl), x1, s1, a1, show nI (jSd S) - (1 : Int32) = nI (jSd S - 1) from nI_sub (b := 1) (by omega), show nI (jSd S - 1) * (8 : Int32) + nI i = nI (8 * (jSd S - 1) + i) by rw [show (8 : Int32) = nI 8 from rfl, nI_mul, nI_add, show (jSd S - 1) * 8 + i = 8 * (jSd S - 1) + i by omega], show nI (2 * i + 1) + (1 : Int32) = nI (2 * (i + 1)) by rw [← nI_succ, show 2 * i + 1 + 1 = 2 * (i + 1) by omega]]
      rfl
    have hC1 : CMd E G F nS pN bN lN' ty W D tk LO sl sp H S (i + 1) (fun j => if j = i then an else jSw S (jSd S - 1) j) an bt fc st lm go (jI_put 250 (jL_put 2000 τ 81 (nI (8 * (jSd S - 1) + i)) (cV an)) 79 (nI (jSd S - 1)) (nI (2 * (i + 1)))) (jx_i (jx_i (jx_l ρ 166 (sumN (keptS D S) (jSd S - 1) + i) (rV an)) 106 85 (nI (sumN (keptS D S) (jSd S - 1) + i + 1))) 163 (jSd S - 1) (nI (i + 1))) := by
      refine ⟨RU2_keep h2' (fun r hr => by rw [s_p_ne hr]; rfl) (fun d hd' => by rw [s_p_eq, jI_up_in (by omega) (by omega), u_ne (by omega)]; rfl) (fun r q _ => by
        show (jL_put 2000 τ 81 (nI (8 * (jSd S - 1) + i)) (cV an)).2 r = _
        rw [s_q_ne q]) (fun j hj => by
        show (jL_put 2000 τ 81 (nI (8 * (jSd S - 1) + i)) (cV an)).2 81 j = _
        rw [s_q_eq, jL_up_in (by omega) (by omega), v_ne (by omega)]) (fun r q q2 => by rw [s_i_ne q2, s_i_ne q]; rfl) (fun j hj => by rw [s_i_ne (by decide), s_i_eq, u_ne hj]; rfl) (fun d hd' => by rw [s_i_eq, u_ne (by omega), s_i_ne (by decide)]; rfl) (fun r hr => by
        show (jx_l ρ 166 (sumN (keptS D S) (jSd S - 1) + i) (rV an)).2 r = _
        rw [s_l_ne hr]) (fun j hj => by
        show (jx_l ρ 166 (sumN (keptS D S) (jSd S - 1) + i) (rV an)).2 166 j = _
        rw [s_l_eq, v_ne (by omega)]), hz, ?_, ?_, fun j hj => ?_⟩
      · rw [s_p_eq, jI_up_in (by omega) (by omega), u_eq rfl]
      · rw [s_i_ne (by decide), s_i_eq, u_eq rfl]; rfl
      · show (jL_put 2000 τ 81 (nI (8 * (jSd S - 1) + i)) (cV an)).2 81 (8 * (jSd S - 1) + j) = cV (if j = i then an else jSw S (jSd S - 1) j) ∧ (jx_l ρ 166 (sumN (keptS D S) (jSd S - 1) + i) (rV an)).2 166 (sumN (keptS D S) (jSd S - 1) + j) = rV (if j = i then an else jSw S (jSd S - 1) j) ∧ VT F pN bN ty W H (ty (dG (D (jSk S (jSd S - 1)))) j) (if j = i then an else jSw S (jSd S - 1) j)
        rw [s_q_eq, jL_up_in (by omega) (by omega), s_l_eq]
        by_cases z : j = i
        · rw [if_pos z, v_eq (by omega), v_eq (by omega)]
          exact ⟨rfl, rfl, by rw [z]; exact u3⟩
        · rw [if_neg z, v_ne (by omega), v_ne (by omega)]
          exact hkv j (by omega)
    obtain ⟨y7, z1, z2⟩ := r_146 (ρ := jx_i (jx_i (jx_l ρ 166 (sumN (keptS D S) (jSd S - 1) + i) (rV an)) 106 85 (nI (sumN (keptS D S) (jSd S - 1) + i + 1))) 163 (jSd S - 1) (nI (i + 1))) (t := jSd S - 1) (k := jSk S (jSd S - 1)) (b := jFb H (jSf S (jSd S - 1))) (m := dM (D (jSk S (jSd S - 1)))) (i := i + 1) (x6 := 1) (cs := dC (D (jSk S (jSd S - 1)))) (by omega) hm8 hcs (fun j hj => by rw [s_i_ne (by decide), s_i_ne (by decide)]; exact b3 j hj) (ρ.1 114 (jSk S (jSd S - 1))) (fun q => hA.2.2.2.2.2.2.2.2.2.1 q)
    obtain ⟨j, τ', ρ', tj, tj2, t1, t2, t3⟩ := call_sim (m := dM (D (jSk S (jSd S - 1)))) hd hk rfl (dM (D (jSk S (jSd S - 1))) - (i + 1)) (i + 1) H (fun j => if j = i then an else jSw S (jSd S - 1) j) (jFb H (jSf S (jSd S - 1))) y7 _ _ rfl (by omega) rfl hC1 (fun q => by omega) z2
    refine ⟨j + 1, τ', ρ', by omega, by omega, ⟨_, h14, h11, ht1, t1⟩, ?_, ?_⟩
    · rw [e5]
      unfold p_r_workName_84 p_r_workName_135
      rw [if_neg (show ¬ nI (500 + i) < (500 : Int32) from (nI_nlt (by omega) (by omega) : ¬ nI (500 + i) < nI 500)), h85, if_neg (nI_in (show sumN (keptS D S) (jSd S - 1) + i < 4000 by omega) (by omega)), nI_clamp (show jSd S - 1 < 2 ^ 31 by omega), if_neg hni, nI_clamp (show jSk S (jSd S - 1) < 2 ^ 31 by omega), if_neg hni2, nI_clamp (show sumN (keptS D S) (jSd S - 1) + i < 2 ^ 31 by omega), a2, show nI (500 + i) - (500 : Int32) + (1 : Int32) = nI (i + 1) by rw [show nI (500 + i) - (500 : Int32) = nI (500 + i - 500) from nI_sub (b := 500) (by omega), ← nI_succ, show 500 + i - 500 = i by omega], show nI (sumN (keptS D S) (jSd S - 1) + i) + (1 : Int32) = nI (sumN (keptS D S) (jSd S - 1) + i + 1) from (nI_succ _).symm]
      show ((p_r_workName_146 (nI (jSd S - 1)) (nI (jSk S (jSd S - 1))) (nI (jFb H (jSf S (jSd S - 1)))) (nI (dM (D (jSk S (jSd S - 1))))) (nI (i + 1)) 1 ((jx_i (jx_i (jx_l ρ 166 (sumN (keptS D S) (jSd S - 1) + i) (rV an)) 106 85 (nI (sumN (keptS D S) (jSd S - 1) + i + 1))) 163 (jSd S - 1) (nI (i + 1))).1 114 (jSk S (jSd S - 1))) 0 (jx_i (jx_i (jx_l ρ 166 (sumN (keptS D S) (jSd S - 1) + i) (rV an)) 106 85 (nI (sumN (keptS D S) (jSd S - 1) + i + 1))) 163 (jSd S - 1) (nI (i + 1)))).bind _) = _
      rw [s_i_ne (show (114 : Nat) ≠ 163 by decide), s_i_ne (show (114 : Nat) ≠ 106 by decide), show (jx_l ρ 166 (sumN (keptS D S) (jSd S - 1) + i) (rV an)).1 114 = ρ.1 114 from rfl, z1, h168 _ _ _ _ _ (by omega) t2]
      rfl
    · rcases t3 with t3 | ⟨H', S', pd', an', st', t3, t4⟩
      · exact Or.inl t3
      · refine Or.inr ⟨H', S', pd', an', st', t3, ?_⟩
        obtain ⟨v1, v2, v3⟩ := rem_ev (i := i) (by omega)
        obtain ⟨v1', _, _⟩ := rem_ev (i := i + 1) (by omega)
        have hms := mea_set (S := S) (st := st) (lm := lm) (sg := 2 * (i + 1)) hd
        rw [hsgi] at hms
        omega
