/-! RUNS, 41: ticks: a call, all of it. -/
theorem c_89 {τ : jx_S} {g x4 m dp : Nat} (hm : m ≤ 8) (hx : x4 + m ≤ 2000) (h11 : τ.1 8 11 = nI dp) (hd : 0 < dp) : ∃ τ', p_cMac_workCall_89 (nI g) (nI x4) (nI m) 0 τ = p_cMac_enter (nI g) (jI_put 250 τ' 79 (nI (dp - 1)) (100 : Int32)) ∧ τ'.1 = τ.1 ∧ (∀ r, r ≠ 83 → τ'.2 r = τ.2 r) ∧ ∀ j, j < m → τ'.2 83 j = τ.2 81 (x4 + j) := by
  unfold p_cMac_workCall_89
  obtain ⟨s1, ⟨σ', rfl, h1, h2, h3⟩, e⟩ := loop_invx (f := fun s : Int32 × Int32 × Int32 × Int32 × jx_S => p_cMac_workCall_89_s s.1 s.2.1 s.2.2.1 s.2.2.2.1 s.2.2.2.2) (fun k s => ∃ σ', s = (nI g, nI x4, nI m, nI k, σ') ∧ σ'.1 = τ.1 ∧ (∀ r, r ≠ 83 → σ'.2 r = τ.2 r) ∧ ∀ j, j < k → σ'.2 83 j = τ.2 81 (x4 + j)) m (fun k s hk h => by
    obtain ⟨σ', rfl, h1, h2, h3⟩ := h
    show ∃ s1, p_cMac_workCall_89_s (nI g) (nI x4) (nI m) (nI k) σ' = _ ∧ _
    unfold p_cMac_workCall_89_s
    rw [if_neg (nI_ge hk (by omega)), nI_add, jL_at_in (show x4 + k < 2000 by omega) (by omega), h2 81 (by decide)]
    refine ⟨_, rfl, jL_put 8 σ' 83 (nI k) (τ.2 81 (x4 + k)), by rw [← nI_succ], h1, fun r hr => ?_, fun i hi => ?_⟩
    · rw [s_q_ne hr]; exact h2 r hr
    · rw [s_q_eq, jL_up_in (by omega) (by omega)]
      by_cases z : i = k
      · rw [z, v_eq rfl]
      · rw [v_ne (by omega)]; exact h3 i (by omega)) (s := (nI g, nI x4, nI m, (0 : Int32), τ)) ⟨τ, rfl, rfl, fun _ _ => rfl, fun i hi => by omega⟩ (X := fun s => p_cMac_enter (nI g) (jI_put 250 s.2.2.2.2 79 (nI (dp - 1)) (100 : Int32))) (fun s hs => by
    obtain ⟨σ', rfl, h1, h2, h3⟩ := hs
    show p_cMac_workCall_89_s (nI g) (nI x4) (nI m) (nI m) σ' = _
    unfold p_cMac_workCall_89_s
    rw [if_pos (nI_le (Nat.le_refl _) (by omega)), h1, h11, show nI dp - (1 : Int32) = nI (dp - 1) from nI_sub (b := 1) (by omega)]
    show (Option.map Sum.inr ((p_cMac_enter (nI g) (jI_put 250 σ' 79 (nI (dp - 1)) (100 : Int32))).bind fun q => some q)) = _
    cases p_cMac_enter (nI g) (jI_put 250 σ' 79 (nI (dp - 1)) (100 : Int32)) <;> rfl) (n := 100000000) (by omega)
  exact ⟨σ', e, h1, h2, h3⟩
def r168 : Int32 × Int32 × Int32 × Int32 × Int32 × Int32 × Int32 × jx_S → Option ((Int32 × Int32 × Int32 × Int32 × Int32 × Int32 × Int32 × jx_S) ⊕ jx_S) := fun s => p_r_workName_168_s s.1 s.2.1 s.2.2.1 s.2.2.2.1 s.2.2.2.2.1 s.2.2.2.2.2.1 s.2.2.2.2.2.2.1 s.2.2.2.2.2.2.2
theorem mea_lt {S : jSt} {st lm a b n : Nat} (hd : 0 < jSd S) (h : remS a + n ≤ remS b) : mea (sSet S a) st lm + n ≤ mea (sSet S b) st lm := by
  have h1 := mea_set (S := S) (st := st) (lm := lm) (sg := a) hd
  have h2 := mea_set (S := S) (st := st) (lm := lm) (sg := b) hd
  omega
theorem rem_ev {i : Nat} (h : i ≤ 8) : remS (2 * i) = 18 - 2 * i ∧ remS (2 * i + 1) = 17 - 2 * i ∧ remS 100 = 1 := by
  unfold remS
  rw [if_neg (by omega), if_neg (by omega), if_pos rfl]
  exact ⟨rfl, by omega, rfl⟩
theorem call_sim {E : jEn} {G : jGh} {F : Nat} {nS pN bN lN' : Nat → Nat} {ty : Nat → Nat → Nat} {W : Nat → Nat} {D : Nat → jDs} {tk LO : Nat → Nat} {sl sp : Nat → Nat → Nat} {S : jSt} {an : aV} {bt fc st lm go m : Nat} (hd : 0 < jSd S) (hK : dK (D (jSk S (jSd S - 1))) = 29) (hm : dM (D (jSk S (jSd S - 1))) = m) : ∀ d i H w b x7 τ ρ, m - i = d → i ≤ m → jFb H (jSf S (jSd S - 1)) = b → CMd E G F nS pN bN lN' ty W D tk LO sl sp H S i w an bt fc st lm go τ ρ → (i = 0 → jSg S (jSd S - 1) = 0) → (i < m → x7 = nI (dC (D (jSk S (jSd S - 1))) i)) → ∃ j τ' ρ', 0 < j ∧ j ≤ d + 1 ∧ tks j τ τ' ∧ (∀ N, jx_loop (N + d + 1) r168 (nI (jSd S - 1), nI (jSk S (jSd S - 1)), nI b, nI m, nI i, 1, x7, ρ) = some ρ') ∧ NX E G F nS pN bN lN' ty W D tk LO sl sp (sSet S (2 * i)) bt fc st lm go j τ' ρ' := by
  intro d
  induction d with
  | zero =>
    intro i H w b x7 τ ρ hdi hi hb hC _ _
    have him : i = m := by omega
    subst him
    obtain ⟨h, hz, c79, r85, hw⟩ := hC
    obtain ⟨e1, e2, hse, hF, hN, s1, s3, hk12, hgo⟩ := mid_of h hd c79
    obtain ⟨hA, hT, _⟩ := id hN
    obtain ⟨g1, g2, g3, g4⟩ := call_ty hT hK
    have hp8 := (h.1.2.2 _ g1).2.1.1
    have hF40 := h.1.1
    have hbG := (h.1.2.2 _ g1).1.2.2.2.1
    obtain ⟨q1, q2⟩ := lfv_all hse.2.1 g3 hbG
    have hm8 : dM (D (jSk S (jSd S - 1))) ≤ 8 := by omega
    have hcw := c_callT (i := i) hA hK hm8 (by omega) s1 hd s3 (by omega)
    rw [if_pos hm.symm] at hcw
    obtain ⟨τ1, y1, y2, y3, y4⟩ := c_89 (τ := τ) (g := dG (D (jSk S (jSd S - 1)))) (x4 := (jSd S - 1) * 8) (m := i) (dp := jSd S) (by omega) (by omega) s1 hd
    have h2 : RU2 E G F nS pN bN lN' ty W D tk LO sl sp H S i an bt fc st lm go τ1 ρ := RU2_keep h (fun r _ => by rw [y2]) (fun d _ => by rw [y2]) (fun r _ q => y3 r q) (fun j _ => by rw [y3 81 (by decide)]) (fun _ _ _ => rfl) (fun _ _ => rfl) (fun _ _ => rfl) (fun _ _ => rfl) (fun _ _ => rfl)
    obtain ⟨τ', ρ', r1, r2, r3⟩ := call_fin (g := dG (D (jSk S (jSd S - 1)))) (t := 0) (v := (4, nI (dG (D (jSk S (jSd S - 1)))))) (w := w) h2 hd hz (Or.inl hK) hm g1 (Or.inl ⟨rfl, rfl⟩) (by omega) q2 r85 (fun s hs => by omega) (fun j hj => by
      rw [Nat.zero_add, y4 j hj, show (jSd S - 1) * 8 + j = 8 * (jSd S - 1) + j by omega]; exact (hw j hj).1) (fun j hj => (hw j hj).2.1) (fun j hj => by rw [Nat.zero_add]; exact (hw j hj).2.2)
    have hti : ¬ (nI (jSd S - 1) < 0 ∨ 251 ≤ jSd S - 1) := fun z => by
      rcases z with z | z
      · exact nI_pos (by omega) z
      · omega
    have hki : ¬ (nI (jSk S (jSd S - 1)) < 0 ∨ 3000 ≤ jSk S (jSd S - 1)) := fun z => by
      rcases z with z | z
      · exact nI_pos (by omega) z
      · omega
    refine ⟨1, τ', ρ', by omega, by omega, ⟨τ', hgo.1, hgo.2, ?_, rfl⟩, fun N => ?_, ?_⟩
    · rw [e1, hcw, y1, r1]
    · refine jx_loop_out (X := some ρ') ?_ N
      show p_r_workName_168_s (nI (jSd S - 1)) (nI (jSk S (jSd S - 1))) (nI b) (nI i) (nI i) 1 x7 ρ = _
      unfold p_r_workName_168_s p_r_workName_334
      rw [if_pos (nI_le (Nat.le_refl _) (by omega)), nI_clamp (show jSd S - 1 < 2 ^ 31 by omega), if_neg hti, if_neg (show ¬ (1 : Int32) = 0 by decide), nI_clamp (show jSk S (jSd S - 1) < 2 ^ 31 by omega), if_neg hki, (hA.2.2.2.2.2.2.2.2.2.2.2.2.2.2.1 hK).2.1, show v_r_tagged (4 : Int64) (nI (dG (D (jSk S (jSd S - 1))))) (jx_i ρ 163 (jSd S - 1) (1000 : Int32)) = rV (4, nI (dG (D (jSk S (jSd S - 1))))) from rfl, r2]
      rfl
    · rcases r3 with r3 | ⟨H', S', an', r3, r4⟩
      · exact Or.inl r3
      · refine Or.inr ⟨H', S', 0, an', st + 1, r3, ?_⟩
        obtain ⟨v1, v2, v3⟩ := rem_ev (i := i) (by omega)
        have := mea_lt (S := S) (st := st) (lm := lm) (a := 100) (b := 2 * i) (n := 1) hd (by omega)
        omega
  | succ d ih =>
    intro i H w b x7 τ ρ hdi hi hb hC hi0 hx7
    have him : i < m := by omega
    obtain ⟨h, hz, c79, r85, hw⟩ := id hC
    obtain ⟨e1, e2, hse, hF, hN, s1, s3, hk12, hgo⟩ := mid_of h hd c79
    obtain ⟨hA, hT, _⟩ := id hN
    obtain ⟨g1, g2, g3, g4⟩ := call_ty hT hK
    have hp8 := (h.1.2.2 _ g1).2.1.1
    have hF40 := h.1.1
    have hm8 : dM (D (jSk S (jSd S - 1))) ≤ 8 := by omega
    have hcw := c_callT (i := i) hA hK hm8 (by omega) s1 hd s3 (by omega)
    rw [if_neg (by omega)] at hcw
    obtain ⟨p1, p2, p3⟩ := (h.1.2.2 _ g1).2.2.1.2.2.2.2 i (by omega)
    have p4 := (h.1.2.2 _ g1).2.2.2.1.2.2.2.2 i (by omega)
    have hs2000 := sum_kept h.1 h.2.2.2.2.1 h.2.2.2.2.2.1 s3
    have hq := h.2.2.2.1.2.2.2.2.2.2.1
    have hc12 : dC (D (jSk S (jSd S - 1))) i < 1200 := by have := hA.2.2.1 i (by omega); omega
    have hx := hx7 him
    have hti : ¬ (nI (jSd S - 1) < 0 ∨ 251 ≤ jSd S - 1) := fun z => by
      rcases z with z | z
      · exact nI_pos (by omega) z
      · omega
    have hki : ¬ (nI (jSk S (jSd S - 1)) < 0 ∨ 3000 ≤ jSk S (jSd S - 1)) := fun z => by
      rcases z with z | z
      · exact nI_pos (by omega) z
      · omega
    obtain ⟨v1, v2, v3⟩ := rem_ev (i := i) (by omega)
    by_cases hst : τ.1 8 13 = 0 ∨ ¬ τ.1 59 (30 * dG (D (jSk S (jSd S - 1))) + i) = 1
    · -- it is put off
      rw [if_pos hst] at hcw
      have hqr : ρ.1 106 86 = 0 ∨ (1 : Int32) = 0 ∨ (ρ.1 123 (jSk S (jSd S - 1)) = nI (dG (D (jSk S (jSd S - 1)))) ∧ ρ.1 136 (8 * dG (D (jSk S (jSd S - 1))) + i) = nI 0) := by
        rcases hst with q | q
        · exact Or.inl (by rw [← hq.1]; exact q)
        · refine Or.inr (Or.inr ⟨(hA.2.2.2.2.2.2.2.2.2.2.2.2.2.2.1 hK).2.1, ?_⟩)
          rw [p4]
          rw [p1] at q
          have : sp (dG (D (jSk S (jSd S - 1)))) i ≠ 1 := fun z => q (by rw [z]; rfl)
          rw [show sp (dG (D (jSk S (jSd S - 1)))) i = 0 by omega]
      have h197 : ∀ y τ1, p_cMac_putOff 33 (nI (dC (D (jSk S (jSd S - 1))) i + 1)) (0 : Int32) τ = some (y, τ1) → τ1.1 8 11 = nI (jSd S) → tk1 τ = some (jI_put 250 (jL_put 2000 τ1 81 (nI (8 * (jSd S - 1) + i)) y) 79 (nI (jSd S - 1)) (nI (2 * (i + 1)))) := fun y τ1 q1 q2 => by
        rw [e1, hcw]
        unfold p_cMac_workCall_197
        rw [c_kid hA (by omega), Option.bind_some]
        show ((p_cMac_putOff 33 (nI (dC (D (jSk S (jSd S - 1))) i + 1)) (0 : Int32) τ).bind _) = _
        rw [q1, Option.bind_some]
        show some (jI_put 250 (jL_put 2000 τ1 81 (nI ((jSd S - 1) * 8) + nI i) y) 79 (τ1.1 8 11 - 1) (nI (2 * i) + 2)) = _
        rw [nI_add, q2, show nI (jSd S) - (1 : Int32) = nI (jSd S - 1) from nI_sub (b := 1) (by omega), show nI (2 * i) + (2 : Int32) = nI (2 * i + 2) from nI_add _ 2, show (jSd S - 1) * 8 + i = 8 * (jSd S - 1) + i by omega, show 2 * i + 2 = 2 * (i + 1) by omega]
      rcases mid_put h hd (show i < dM (D (jSk S (jSd S - 1))) by omega) (fun s q => by unfold bnd at q; omega) with ⟨a, τ1, ρ1, H1, r1, r2, x1, x2, ⟨x3, x4⟩, x5, x6, _⟩ | ⟨v, y, τ1, ρ1, H1, r1, r2, x1, ⟨x3, x4⟩, x5, x6⟩
      · rw [hb] at r2
        have hr168 := r_168 (t := jSd S - 1) (k := jSk S (jSd S - 1)) (m := m) (i := i) (a0 := sumN (keptS D S) (jSd S - 1) + i) (g := dG (D (jSk S (jSd S - 1)))) (by omega) hk12 hc12 him (by omega) (by omega) hqr r2 (by rw [x4.2.1 85 (by decide)]; exact r85) (by omega)
        rw [x1.2.2.2.1.2.1, if_pos rfl] at hr168
        have hC1 : CMd E G F nS pN bN lN' ty W D tk LO sl sp H1 S (i + 1) (fun j => if j = i then a else w j) an bt fc st lm go (jI_put 250 (jL_put 2000 τ1 81 (nI (8 * (jSd S - 1) + i)) (cV a)) 79 (nI (jSd S - 1)) (nI (2 * (i + 1)))) (jx_i (jx_l ρ1 166 (sumN (keptS D S) (jSd S - 1) + i) (rV a)) 106 85 (nI (sumN (keptS D S) (jSd S - 1) + i + 1))) := by
          refine ⟨RU2_keep x1 (fun r hr => by rw [s_p_ne hr]; rfl) (fun d hd' => by rw [s_p_eq, jI_up_in (by omega) (by omega), u_ne (by omega)]; rfl) (fun r q _ => by
            show (jL_put 2000 τ1 81 (nI (8 * (jSd S - 1) + i)) (cV a)).2 r = _
            rw [s_q_ne q]) (fun j hj => by
            show (jL_put 2000 τ1 81 (nI (8 * (jSd S - 1) + i)) (cV a)).2 81 j = _
            rw [s_q_eq, jL_up_in (by omega) (by omega), v_ne (by omega)]) (fun r q _ => by rw [s_i_ne q]; rfl) (fun j hj => by rw [s_i_eq, u_ne hj]; rfl) (fun d _ => by rw [s_i_ne (by decide)]; rfl) (fun r hr => by
            show (jx_l ρ1 166 (sumN (keptS D S) (jSd S - 1) + i) (rV a)).2 r = _
            rw [s_l_ne hr]) (fun j hj => by
            show (jx_l ρ1 166 (sumN (keptS D S) (jSd S - 1) + i) (rV a)).2 166 j = _
            rw [s_l_eq, v_ne (by omega)]), BZ_put hz (HQc_of x6), ?_, ?_, fun j hj => ?_⟩
          · rw [s_p_eq, jI_up_in (by omega) (by omega), u_eq rfl]
          · rw [s_i_eq, u_eq rfl]; rfl
          · show (jL_put 2000 τ1 81 (nI (8 * (jSd S - 1) + i)) (cV a)).2 81 (8 * (jSd S - 1) + j) = cV (if j = i then a else w j) ∧ (jx_l ρ1 166 (sumN (keptS D S) (jSd S - 1) + i) (rV a)).2 166 (sumN (keptS D S) (jSd S - 1) + j) = rV (if j = i then a else w j) ∧ VT F pN bN ty W H1 (ty (dG (D (jSk S (jSd S - 1)))) j) (if j = i then a else w j)
            rw [s_q_eq, jL_up_in (by omega) (by omega), s_l_eq]
            by_cases z : j = i
            · rw [if_pos z, v_eq (by omega), v_eq (by omega)]
              refine ⟨rfl, rfl, ?_⟩
              rw [z, ← g4 i (by omega)]; exact x2
            · rw [if_neg z, v_ne (by omega), v_ne (by omega), x3.2.2.2 81 (by decide), x4.2.2 166 (by decide)]
              obtain ⟨w1, w2, w3⟩ := hw j (by omega)
              exact ⟨w1, w2, VT_grow x5 w3⟩
        obtain ⟨j, τ', ρ', _, tj, t1, t2, t3⟩ := ih (i + 1) H1 (fun j => if j = i then a else w j) b (ρ1.1 120 (dC (D (jSk S (jSd S - 1))) i)) _ _ (by omega) (by omega) (by rw [(HQ_f x6).2.1]; exact hb) hC1 (fun q => by omega) (fun q => by
          rw [x4.1 120 (by decide)]
          exact (hA.2.2.2.2.2.2.2.2.2.2.2.2.1 (by omega)).2.2 i (by omega))
        refine ⟨j + 1, τ', ρ', by omega, by omega, ⟨_, hgo.1, hgo.2, h197 _ _ r1 (by rw [x3.2.1 11 (by decide)]; exact s1), t1⟩, fun N => ?_, ?_⟩
        · rw [show N + (d + 1) + 1 = (N + d + 1) + 1 by omega, hx]
          rw [jx_loop_inl (s1 := (nI (jSd S - 1), nI (jSk S (jSd S - 1)), nI b, nI m, nI (i + 1), 1, ρ1.1 120 (dC (D (jSk S (jSd S - 1))) i), jx_i (jx_l ρ1 166 (sumN (keptS D S) (jSd S - 1) + i) (rV a)) 106 85 (nI (sumN (keptS D S) (jSd S - 1) + i + 1))))]
          · exact t2 N
          · exact hr168
        · rcases t3 with t3 | ⟨H', S', pd', an', st', t3, t4⟩
          · exact Or.inl t3
          · refine Or.inr ⟨H', S', pd', an', st', t3, ?_⟩
            obtain ⟨v1', _, _⟩ := rem_ev (i := i + 1) (by omega)
            have := mea_lt (S := S) (st := st) (lm := lm) (a := 2 * (i + 1)) (b := 2 * i) (n := 1) hd (by omega)
            omega
      · rw [hb] at r2
        have hr168 := r_168 (t := jSd S - 1) (k := jSk S (jSd S - 1)) (m := m) (i := i) (a0 := sumN (keptS D S) (jSd S - 1) + i) (g := dG (D (jSk S (jSd S - 1)))) (by omega) hk12 hc12 him (by omega) (by omega) hqr r2 (by rw [x4.2.1 85 (by decide)]; exact r85) (by omega)
        rw [x6, if_neg (by decide)] at hr168
        refine ⟨1, _, ρ1, by omega, by omega, ⟨_, hgo.1, hgo.2, h197 _ _ r1 (by rw [x3.2.1 11 (by decide)]; exact s1), rfl⟩, fun N => ?_, Or.inl ⟨H1, EN_keep x1 ?_ ?_ ?_ rfl⟩⟩
        · rw [hx]
          exact jx_loop_inr (by exact hr168)
        · rw [s_p_ne (by decide)]; rfl
        · rw [s_p_ne (by decide)]; rfl
        · rw [s_p_ne (by decide)]; rfl
    · -- it is worked, as a strict one
      rw [if_neg hst] at hcw
      have h13 : τ.1 8 13 = 1 := by
        rcases hq.2 with y | y
        · exact absurd (Or.inl y) hst
        · exact y
      have h59 : τ.1 59 (30 * dG (D (jSk S (jSd S - 1))) + i) = 1 := Classical.byContradiction (fun q => hst (Or.inr q))
      have hsp : sp (dG (D (jSk S (jSd S - 1)))) i = 1 := by
        rw [p1] at h59
        exact (nI_eq (b := 1) (by omega) (by omega)).1 h59
      have hty := p3 hsp
      have hWi := g4 i (by omega)
      have hs := RU2_str h
      have h2 : RU2 E G F nS pN bN lN' ty W D tk LO sl sp H S i an bt fc st lm go (cStg (jI_put 10 τ 71 (9 : Int32) (jI_at 10 (τ.1 71) (9 : Int32) + 1)) (jSd S) (2 * i + 1)) (jx_i (jx_i ρ 106 92 (ρ.1 106 92 + 1)) 163 (jSd S - 1) (nI (500 + i))) := by
        unfold cStg
        exact RU2_keep hs (fun r hr => s_p_ne hr) (fun d hd' => by rw [s_p_eq, jI_up_in (by omega) (by omega), u_ne (by omega)]) (fun _ _ _ => rfl) (fun _ _ => rfl) (fun r _ q => s_i_ne q) (fun j _ => by rw [s_i_ne (by decide)]) (fun d hd' => by rw [s_i_eq, u_ne (by omega)]) (fun _ _ => rfl) (fun _ _ => rfl)
      have hk1 : kept (dK (D (jSk S (jSd S - 1)))) (2 * i + 1) = i := by unfold kept; rw [if_pos ⟨hK, by omega⟩]; omega
      have hun : unus (dK (D (jSk S (jSd S - 1)))) (dM (D (jSk S (jSd S - 1)))) (2 * i + 1) = i + 1 := by unfold unus; rw [if_neg (by omega), if_pos ⟨hK, by omega⟩]; omega
      have hR0 := RU0_close (sg := 2 * i + 1) (w := w) h2 hd (by unfold cStg; rw [s_p_eq, jI_up_in (by omega) (by omega), u_eq rfl]) (by
        rw [s_i_eq, u_eq rfl]
        unfold rstg
        rw [if_neg (by omega), if_pos ⟨hK, by omega⟩, show (2 * i + 1) / 2 = i by omega]) (by rw [s_i_ne (by decide), s_i_eq, u_ne (by decide), hk1]; exact r85) (fun j hj => by rw [hk1] at hj; exact hw j hj) (fun q => by omega) (Or.inr (Or.inr (Or.inr (Or.inl ⟨hK, Or.inr ⟨by omega, by omega⟩⟩)))) (by rw [hun]; omega) (fun q => by
          have := hi0 (by omega)
          omega)
      have egt : jSg (sSetW S (2 * i + 1) w) (jSd (sSetW S (2 * i + 1) w) - 1) = 2 * i + 1 := if_pos rfl
      obtain ⟨τ', ρ', r1, r2, r3⟩ := part_beg (i := i) hR0 hd hz (show i < dM (D (jSk S (jSd S - 1))) by omega) (by rw [egt]; omega) (fun i' q => by
          rw [egt] at q
          have q' : unus (dK (D (jSk S (jSd S - 1)))) (dM (D (jSk S (jSd S - 1)))) (2 * i + 1) ≤ i' := q
          omega) (show W (dC (D (jSk S (jSd S - 1))) i) < 2 by omega) (by
          rw [egt]
          show W (dC (D (jSk S (jSd S - 1))) i) = xtyp W D (jSk S (jSd S - 1)) (2 * i + 1)
          unfold xtyp
          rw [if_neg (by omega), if_pos hK, show (2 * i + 1) / 2 = i by omega]) (show dK (D (jSk S (jSd S - 1))) ≠ 28 by omega) (fun s q => by
          have q' : bnd (dK (D (jSk S (jSd S - 1)))) i (dS (D (jSk S (jSd S - 1)))) s := q
          unfold bnd at q'; omega) (fun x q1 q2 => hse.2.2.2.2.2.1 i (Nat.le_refl _) (by omega) x q1 q2)
      refine ⟨1, τ', ρ', by omega, by omega, ⟨τ', hgo.1, hgo.2, ?_, rfl⟩, fun N => ?_, ?_⟩
      · have hA' : AN E (jI_put 10 τ 71 (9 : Int32) (jI_at 10 (τ.1 71) (9 : Int32) + 1)) ρ (jSk S (jSd S - 1)) (tk (jSk S (jSd S - 1))) (D (jSk S (jSd S - 1))) := by
          have hr : RP E G F nS pN bN lN' ty W D tk LO sl sp (jI_put 10 τ 71 (9 : Int32) (jI_at 10 (τ.1 71) (9 : Int32) + 1)) ρ := RP_keep h.1 (fun r hr => s_p_ne (fun z => by subst z; revert hr; decide)) rfl (fun _ _ => rfl)
          exact ((hr.2.2 _ hF).2.2.2.2 _ hse.1.2.1 hse.1.2.2).1
        have e2' : v_cMac_frame (jI_put 10 τ 71 (9 : Int32) (jI_at 10 (τ.1 71) (9 : Int32) + 1)) = nI (jFb H (jSf S (jSd S - 1))) := by
          rw [← e2]
          unfold v_cMac_frame
          simp (disch := first | assumption | decide | omega) only [nI_lit, cT_lt, cF_lt, cT_le, cF_le, cT_eq, cF_eq, nF_le, mF_eq, mG_eq, mT_lt, eq_self, nI_clamp, nI_add, Nat.add_zero, nI_sub, s_i_ne, s_i_eq, s_i_2, s_l_1, s_l_ne, s_l_eq, s_p_ne, s_p_eq, s_p_2, s_q_1, s_q_ne, s_q_eq, u_ne, u_eq, v_ne, v_eq, w_ne, w_eq, jI_at_in, jL_at_in, false_or, or_false, true_or, or_true, true_and, and_true, false_and, and_false, not_true_eq_false, not_false_eq_true, ↓reduceIte, Option.bind_some, Option.map_some]
        rw [e1, hcw, c_kid hA' (by omega), Option.bind_some]
        show p_cMac_beginPart (nI (dC (D (jSk S (jSd S - 1))) i + 1)) (nI (2 * i + 1)) (jI_put 10 τ 71 (9 : Int32) (jI_at 10 (τ.1 71) (9 : Int32) + 1)) = _
        exact (c_bp (sg := 2 * i + 1) (by rw [s_p_ne (by decide)]; exact s1) hd e2').trans r1
      · refine jx_loop_inr ?_
        show p_r_workName_168_s (nI (jSd S - 1)) (nI (jSk S (jSd S - 1))) (nI b) (nI m) (nI i) 1 x7 ρ = _
        have r2' : p_r_begin (nI (dC (D (jSk S (jSd S - 1))) i)) (nI (jFb H (jSf S (jSd S - 1)))) (-1) (jx_i (jx_i ρ 106 92 (ρ.1 106 92 + 1)) 163 (jSd S - 1) (nI (500 + i))) = some ρ' := r2
        have h86 : ρ.1 106 86 = 1 := by rw [← hq.1]; exact h13
        unfold p_r_workName_168_s
        rw [if_neg (nI_ge him (by omega)), h86, if_neg (show ¬ (1 : Int32) = 0 by decide), if_neg (show ¬ (1 : Int32) = 0 by decide), nI_clamp (show jSk S (jSd S - 1) < 2 ^ 31 by omega), if_neg hki, (hA.2.2.2.2.2.2.2.2.2.2.2.2.2.2.1 hK).2.1, show (8 : Int32) * nI (dG (D (jSk S (jSd S - 1)))) + nI i = nI (8 * dG (D (jSk S (jSd S - 1))) + i) by rw [show (8 : Int32) = nI 8 from rfl, nI_mul, nI_add], if_neg (nI_in (show 8 * dG (D (jSk S (jSd S - 1))) + i < 320 by omega) (by omega)), nI_clamp (show 8 * dG (D (jSk S (jSd S - 1))) + i < 2 ^ 31 by omega), p4, hsp, if_neg (by decide), nI_clamp (show jSd S - 1 < 2 ^ 31 by omega), if_neg hti, hx, show (500 : Int32) + nI i = nI (500 + i) from nI_add 500 i, ← hb, r2']
        rfl
      · rcases r3 with r3 | ⟨H', S', an', r3, r4⟩
        · exact Or.inl r3
        · refine Or.inr ⟨H', S', 0, an', st + 1, r3, ?_⟩
          have r4' : mea S' (st + 1) lm = mea (sSet S (2 * i + 1)) st lm := r4
          have := mea_lt (S := S) (st := st) (lm := lm) (a := 2 * i + 1) (b := 2 * i) (n := 1) hd (by omega)
          omega
