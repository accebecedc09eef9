/-! RUNS, 43: ticks: a local that is called. -/
theorem ty_all : ∀ T, T < 14 → ∀ m, m < 3 → m ≤ tyA T → 0 < m → tyL T m < 2 → m = tyA T ∧ tyL T m = T % 2 ∧ 2 ≤ T := by
  intro T hT m hm hA h0 hl
  unfold tyL at hl ⊢
  by_cases z : m = tyA T
  · rw [if_neg (by omega), if_pos z]
    refine ⟨z, rfl, ?_⟩
    by_cases y : T < 2
    · have : tyA T = 0 := if_pos y
      omega
    · omega
  · rw [if_neg (by omega), if_neg z] at hl
    omega
theorem ty_A2 : ∀ T, T < 14 → tyA T ≤ 2 := by decide +kernel
theorem held_ty {F : Nat} {pN bN : Nat → Nat} {ty : Nat → Nat → Nat} {f : Nat} {W : Nat → Nat} {d : jDs} {k : Nat} (h : okT F pN bN ty f W d k) (hK : dK d = 28) : dM d ≤ tyA (ty f (dS d)) ∧ tyL (ty f (dS d)) (dM d) = W k ∧ ∀ i, i < dM d → W (dC d i) = tyP (ty f (dS d)) i := by
  unfold okT at h
  rcases h with h | h | h | h | h | h | h | h | h | h
  · omega
  · omega
  · omega
  · omega
  · omega
  · omega
  · omega
  · omega
  · exact h.2
  · omega
def c178 : Int32 × Int64 × Int32 × Int32 × Int32 × jx_S → Option ((Int32 × Int64 × Int32 × Int32 × Int32 × jx_S) ⊕ jx_S) := fun s => p_cMac_callHeld_178_s s.1 s.2.1 s.2.2.1 s.2.2.2.1 s.2.2.2.2.1 s.2.2.2.2.2
/-- in the midst of a call of a local -/
def HMd (E : jEn) (G : jGh) (F : Nat) (nS pN bN lN' : Nat → Nat) (ty : Nat → Nat → Nat) (W : Nat → Nat) (D : Nat → jDs) (tk LO : Nat → Nat) (sl sp : Nat → Nat → Nat) (H0 H : jHp) (S : jSt) (t g i : Nat) (v : aV) (w : Nat → aV) (an : aV) (bt fc st lm go : Nat) (ρ0 τ ρ : jx_S) : Prop := RU2 E G F nS pN bN lN' ty W D tk LO sl sp H S i an bt fc st lm go τ ρ ∧ BZ H S 0 ∧ ρ.1 106 85 = nI (sumN (keptS D S) (jSd S - 1) + i) ∧ (∀ s, s < t → τ.2 83 s = cV (gvf H0 t v t s)) ∧ (∀ j, j < i → τ.2 83 (t + j) = cV (w j) ∧ ρ.2 166 (sumN (keptS D S) (jSd S - 1) + j) = rV (w j) ∧ VT F pN bN ty W H (ty g (t + j)) (w j)) ∧ HX H0 H ∧ HQ H0 H ∧ ∀ x, x < jAn H0 → ρ.2 160 x = ρ0.2 160 x
theorem held_sim {E : jEn} {G : jGh} {F : Nat} {nS pN bN lN' : Nat → Nat} {ty : Nat → Nat → Nat} {W : Nat → Nat} {D : Nat → jDs} {tk LO : Nat → Nat} {sl sp : Nat → Nat → Nat} {H0 : jHp} {S : jSt} {an v : aV} {bt fc st lm go m t g b : Nat} {ρ0 : jx_S} (hd : 0 < jSd S) (hK : dK (D (jSk S (jSd S - 1))) = 28) (hm : dM (D (jSk S (jSd S - 1))) = m) (hm0 : 0 < m) (hg : g < F) (hf : fnV H0 v g t) (htm : t + m = pN g) (hbW : bN g = W (jSk S (jSd S - 1))) (hWi : ∀ i, i < m → W (dC (D (jSk S (jSd S - 1))) i) = ty g (t + i)) (hb : jFb H0 (jSf S (jSd S - 1)) = b) (hv : jLv H0 (jSf S (jSd S - 1)) (dS (D (jSk S (jSd S - 1)))) = v) (hG0 : HIg F pN bN ty W H0 (fun x => x < jAn H0)) (h160 : ∀ a, a < jAn H0 → ρ0.2 160 a = rV (jAv H0 a)) : ∀ d i H w x7 τ ρ, m - i = d → i ≤ m → HMd E G F nS pN bN lN' ty W D tk LO sl sp H0 H S t g i v w an bt fc st lm go ρ0 τ ρ → (i < m → x7 = nI (dC (D (jSk S (jSd S - 1))) i)) → ∃ τ' ρ', (∀ N, jx_loop (N + d + 1) c178 (nI (jSk S (jSd S - 1) + 1), cV (4, nI g), nI t, nI m, nI i, τ) = some τ') ∧ (∀ N, jx_loop (N + d + 1) r168 (nI (jSd S - 1), nI (jSk S (jSd S - 1)), nI b, nI m, nI i, 0, x7, ρ) = some ρ') ∧ ((∃ H', EN H' go τ' ρ') ∨ ∃ H' S' an', RUN E G F nS pN bN lN' ty W D tk LO sl sp H' S' 0 an' bt fc (st + 1) lm go τ' ρ' ∧ mea S' (st + 1) lm = mea (sSet S 100) st lm) := by
  intro d
  induction d with
  | zero =>
    intro i H w x7 τ ρ hdi hi hC _
    have him : i = m := by omega
    subst him
    obtain ⟨h, hz, r85, h83, hw, hX, hQ, hgo⟩ := hC
    obtain ⟨h1, _, ⟨⟨s1, s2, s3⟩, s4, _⟩, ⟨k1, k2, _⟩, hH, ⟨_, it, _⟩, _⟩ := id h
    have hse := it hd
    have hF := (hH.1.2 _ hse.1.1).1
    have hN := (h1.2.2 _ hF).2.2.2.2 _ hse.1.2.1 hse.1.2.2
    obtain ⟨hA, hT, _, _, _, _, _, _, n28, _⟩ := id hN
    obtain ⟨n1, n2⟩ := n28 hK
    have hk12 := hA.1
    have hp8 := (h1.2.2 _ hg).2.1.1
    obtain ⟨o1, o2, o3⟩ := h.2.1.2.2.2.1
    have hAv : ∀ p i, p < jGn H0 → i < jGs H0 p → jAv H (jGf H0 p + i) = jAv H0 (jGf H0 p + i) := fun p i hp hi => by
      have hin := (hG0.2.2 p hp).1.2.2.2.2.1
      obtain ⟨a1, a2, a3, a4, a5⟩ := hX.2.2.2 p hp
      have hp' : p < jGn H := by have := hX.2.2.1; omega
      have v0 := (hG0.2.2 p hp).2.2 i hi (show jGf H0 p + i < jAn H0 by omega)
      have hAn := hQ.2.2.2.2.2.1.1
      have v1 := (hH.2.2.2.2.2.2 p hp').2.2 i (by rw [a4]; exact hi) (show jGf H p + i < jAn H by rw [a3]; omega)
      rw [a3] at v1
      have t0 := VT_tag v0
      have t1 := VT_tag v1
      refine rV_inj (by omega) (by omega) ?_
      rw [← h160 _ (show jGf H0 p + i < jAn H0 by omega), ← hgo _ (show jGf H0 p + i < jAn H0 by omega)]
      exact ((o3 _ (show jGf H0 p + i < jAn H by omega) (show jGf H0 p + i < jAn H by omega)).2).symm
    have hgv := gvf_same hG0 hX hAv t t v (Nat.le_refl _) hf
    obtain ⟨τ', ρ', r1, r2, r3⟩ := call_fin (g := g) (t := t) (v := v) (w := w) h hd hz (Or.inr ⟨hK, hm0⟩) hm hg (fnV_grow hX hf) htm hbW r85 (fun s hs => by rw [hgv s hs]; exact h83 s hs) (fun j hj => (hw j hj).1) (fun j hj => (hw j hj).2.1) (fun j hj => (hw j hj).2.2)
    have hti : ¬ (nI (jSd S - 1) < 0 ∨ 251 ≤ jSd S - 1) := fun z => by
      rcases z with z | z
      · exact nI_pos (by omega) z
      · omega
    have hki : ¬ (nI (jSk S (jSd S - 1)) < 0 ∨ 3000 ≤ jSk S (jSd S - 1)) := fun z => by
      rcases z with z | z
      · exact nI_pos (by omega) z
      · omega
    obtain ⟨eFn, eFb, eFf, eLb, eLv, _⟩ := HQ_f hQ
    have hfe := (hH.1.2 _ hse.1.1).2.1
    have hfe0 := hH.1.1
    have hlo := (h.2.1.2.2.2.2.2.2 _ hse.1.1 _ n1 (hse.2.2.1 _ n2)).2
    rw [eFb, eLv, hb, hv] at hlo
    rw [eFb, hb] at hfe
    refine ⟨τ', ρ', fun N => jx_loop_out (X := some τ') ?_ N, fun N => jx_loop_out (X := some ρ') ?_ N, r3⟩
    · show p_cMac_callHeld_178_s (nI (jSk S (jSd S - 1) + 1)) (cV (4, nI g)) (nI t) (nI i) (nI i) τ = _
      unfold p_cMac_callHeld_178_s p_cMac_callHeld_225
      rw [if_pos (nI_le (Nat.le_refl _) (by omega)), k1, if_neg (fun q => q rfl), c_num, s1, show nI (jSd S) - (1 : Int32) = nI (jSd S - 1) from nI_sub (b := 1) (by omega), show ((4, nI g) : aV).2 = nI g from rfl, r1]
      rfl
    · show p_r_workName_168_s (nI (jSd S - 1)) (nI (jSk S (jSd S - 1))) (nI b) (nI i) (nI i) 0 x7 ρ = _
      unfold p_r_workName_168_s p_r_workName_334
      rw [if_pos (nI_le (Nat.le_refl _) (by omega)), nI_clamp (show jSd S - 1 < 2 ^ 31 by omega), if_neg hti, if_pos rfl, nI_clamp (show jSk S (jSd S - 1) < 2 ^ 31 by omega), if_neg hki, (hA.2.2.2.2.2.2.2.2.2.2.2.2.2.1 hK).1, nI_add, if_neg (nI_in (show b + dS (D (jSk S (jSd S - 1))) < 30000 by omega) (by omega)), nI_clamp (show b + dS (D (jSk S (jSd S - 1))) < 2 ^ 31 by omega), hlo, r2]
      rfl
  | succ d ih =>
    intro i H w x7 τ ρ hdi hi hC hx7
    have him : i < m := by omega
    obtain ⟨h, hz, r85, h83, hw, hX, hQ, hgo⟩ := hC
    obtain ⟨h1, _, ⟨⟨s1, s2, s3⟩, s4, _⟩, ⟨k1, k2, _⟩, hH, hSI, _⟩ := id h
    have hse := hSI.2.1 hd
    have hF := (hH.1.2 _ hse.1.1).1
    have hN := (h1.2.2 _ hF).2.2.2.2 _ hse.1.2.1 hse.1.2.2
    have hA := hN.1
    have hk12 := hA.1
    have hp8 := (h1.2.2 _ hg).2.1.1
    have hs2000 := sum_kept h1 hH hSI s3
    have hc12 : dC (D (jSk S (jSd S - 1))) i < 1200 := by have := hA.2.2.1 i (by omega); omega
    have hx := hx7 him
    obtain ⟨eFn, eFb, eFf, eLb, eLv, _⟩ := HQ_f hQ
    have hcl : ∀ y τ1, p_cMac_putOff 33 (nI (dC (D (jSk S (jSd S - 1))) i + 1)) (0 : Int32) τ = some (y, τ1) → c178 (nI (jSk S (jSd S - 1) + 1), cV (4, nI g), nI t, nI m, nI i, τ) = some (.inl (nI (jSk S (jSd S - 1) + 1), cV (4, nI g), nI t, nI m, nI (i + 1), jL_put 8 τ1 83 (nI (t + i)) y)) := fun y τ1 q1 => by
      show p_cMac_callHeld_178_s (nI (jSk S (jSd S - 1) + 1)) (cV (4, nI g)) (nI t) (nI m) (nI i) τ = _
      unfold p_cMac_callHeld_178_s
      rw [if_neg (nI_ge him (by omega)), k1, if_neg (fun q => q rfl), c_kid hA (by omega), Option.bind_some]
      show ((p_cMac_putOff 33 (nI (dC (D (jSk S (jSd S - 1))) i + 1)) (0 : Int32) τ).bind _) = _
      rw [q1, Option.bind_some, nI_add, ← nI_succ]
    rcases mid_put h hd (show i < dM (D (jSk S (jSd S - 1))) by omega) (fun s q => by unfold bnd at q; omega) with ⟨a, τ1, ρ1, H1, r1, r2, x1, x2, ⟨x3, x4⟩, x5, x6, x7'⟩ | ⟨y, y2, τ1, ρ1, H1, r1, r2, x1, ⟨x3, x4⟩, x5, x6⟩
    · rw [eFb, hb] at r2
      have hr168 := r_168 (t := jSd S - 1) (k := jSk S (jSd S - 1)) (m := m) (i := i) (a0 := sumN (keptS D S) (jSd S - 1) + i) (g := 0) (x6 := 0) (by omega) hk12 hc12 him (by omega) (by omega) (Or.inr (Or.inl rfl)) r2 (by rw [x4.2.1 85 (by decide)]; exact r85) (by omega)
      rw [x1.2.2.2.1.2.1, if_pos rfl] at hr168
      have hC1 : HMd E G F nS pN bN lN' ty W D tk LO sl sp H0 H1 S t g (i + 1) v (fun j => if j = i then a else w j) an bt fc st lm go ρ0 (jL_put 8 τ1 83 (nI (t + i)) (cV a)) (jx_i (jx_l ρ1 166 (sumN (keptS D S) (jSd S - 1) + i) (rV a)) 106 85 (nI (sumN (keptS D S) (jSd S - 1) + i + 1))) := by
        refine ⟨RU2_keep x1 (fun _ _ => rfl) (fun _ _ => rfl) (fun r _ q => by rw [s_q_ne q]) (fun j _ => by rw [s_q_ne (by decide)]) (fun r q _ => by rw [s_i_ne q]; rfl) (fun j hj => by rw [s_i_eq, u_ne hj]; rfl) (fun d _ => by rw [s_i_ne (by decide)]; rfl) (fun r hr => by
            show (jx_l ρ1 166 (sumN (keptS D S) (jSd S - 1) + i) (rV a)).2 r = _
            rw [s_l_ne hr]) (fun j hj => by
            show (jx_l ρ1 166 (sumN (keptS D S) (jSd S - 1) + i) (rV a)).2 166 j = _
            rw [s_l_eq, v_ne (by omega)]), BZ_put hz (HQc_of x6), ?_, fun s hs => ?_, fun j hj => ?_, HX_trans hX x5, HQ_trans hQ x6, fun x hx => ?_⟩
        · rw [s_i_eq, u_eq rfl]; rfl
        · rw [s_q_eq, jL_up_in (by omega) (by omega), v_ne (by omega), x3.2.2.2 83 (by decide)]; exact h83 s hs
        · show (jL_put 8 τ1 83 (nI (t + i)) (cV a)).2 83 (t + j) = cV (if j = i then a else w j) ∧ (jx_l ρ1 166 (sumN (keptS D S) (jSd S - 1) + i) (rV a)).2 166 (sumN (keptS D S) (jSd S - 1) + j) = rV (if j = i then a else w j) ∧ VT F pN bN ty W H1 (ty g (t + j)) (if j = i then a else w j)
          rw [s_q_eq, jL_up_in (by omega) (by omega), s_l_eq]
          by_cases z : j = i
          · rw [if_pos z, v_eq (by omega), v_eq (by omega)]
            refine ⟨rfl, rfl, ?_⟩
            rw [z, ← hWi i him]; exact x2
          · rw [if_neg z, v_ne (by omega), v_ne (by omega), x3.2.2.2 83 (by decide), x4.2.2 166 (by decide)]
            obtain ⟨w1, w2, w3⟩ := hw j (by omega)
            exact ⟨w1, w2, VT_grow x5 w3⟩
        · show (jx_l ρ1 166 (sumN (keptS D S) (jSd S - 1) + i) (rV a)).2 160 x = _
          rw [s_l_ne (by decide), x7' x (by have := hQ.2.2.2.2.2.1.1; omega)]
          exact hgo x hx
      obtain ⟨τ', ρ', t1, t2, t3⟩ := ih (i + 1) H1 (fun j => if j = i then a else w j) (ρ1.1 120 (dC (D (jSk S (jSd S - 1))) i)) _ _ (by omega) (by omega) hC1 (fun q => by
        rw [x4.1 120 (by decide)]
        exact (hA.2.2.2.2.2.2.2.2.2.2.2.2.1 (by omega)).2.2 i (by omega))
      refine ⟨τ', ρ', fun N => ?_, fun N => ?_, t3⟩
      · rw [show N + (d + 1) + 1 = (N + d + 1) + 1 by omega, jx_loop_inl (hcl _ _ r1)]
        exact t1 N
      · rw [show N + (d + 1) + 1 = (N + d + 1) + 1 by omega, hx]
        rw [jx_loop_inl (s1 := (nI (jSd S - 1), nI (jSk S (jSd S - 1)), nI b, nI m, nI (i + 1), 0, ρ1.1 120 (dC (D (jSk S (jSd S - 1))) i), jx_i (jx_l ρ1 166 (sumN (keptS D S) (jSd S - 1) + i) (rV a)) 106 85 (nI (sumN (keptS D S) (jSd S - 1) + i + 1))))]
        · exact t2 N
        · exact hr168
    · rw [eFb, hb] at r2
      have hr168 := r_168 (t := jSd S - 1) (k := jSk S (jSd S - 1)) (m := m) (i := i) (a0 := sumN (keptS D S) (jSd S - 1) + i) (g := 0) (x6 := 0) (by omega) hk12 hc12 him (by omega) (by omega) (Or.inr (Or.inl rfl)) r2 (by rw [x4.2.1 85 (by decide)]; exact r85) (by omega)
      rw [x6, if_neg (by decide)] at hr168
      refine ⟨jL_put 8 τ1 83 (nI (t + i)) y, ρ1, fun N => ?_, fun N => ?_, Or.inl ⟨H1, EN_keep (τ' := jL_put 8 τ1 83 (nI (t + i)) y) x1 rfl rfl rfl rfl⟩⟩
      · rw [show N + (d + 1) + 1 = (N + d + 1) + 1 by omega, jx_loop_inl (hcl _ _ r1)]
        refine jx_loop_out (X := some (jL_put 8 τ1 83 (nI (t + i)) y)) ?_ _
        show p_cMac_callHeld_178_s (nI (jSk S (jSd S - 1) + 1)) (cV (4, nI g)) (nI t) (nI m) (nI (i + 1)) (jL_put 8 τ1 83 (nI (t + i)) y) = _
        unfold p_cMac_callHeld_178_s p_cMac_callHeld_225
        rw [show (jL_put 8 τ1 83 (nI (t + i)) y).1 8 14 = 5 from x5, if_pos (show ¬ (5 : Int32) = 0 by decide), if_pos (show ¬ (5 : Int32) = 0 by decide)]
        split <;> rfl
      · rw [hx]
        exact jx_loop_inr (by exact hr168)
theorem tick_held {E : jEn} {G : jGh} {F : Nat} {nS pN bN lN' : Nat → Nat} {ty : Nat → Nat → Nat} {W : Nat → Nat} {D : Nat → jDs} {tk LO : Nat → Nat} {sl sp : Nat → Nat → Nat} {H : jHp} {S : jSt} {pd : Nat} {an : aV} {bt fc st lm go : Nat} {τ ρ : jx_S} (h : RUN E G F nS pN bN lN' ty W D tk LO sl sp H S pd an bt fc st lm go τ ρ) (hd : 0 < jSd S) (hk : dK (D (jSk S (jSd S - 1))) = 28) (hm0 : 0 < dM (D (jSk S (jSd S - 1)))) (hn100 : jSg S (jSd S - 1) ≠ 100) : ∃ τ' ρ', tk1 τ = some τ' ∧ p_r_go_0_s ρ = some (.inl ρ') ∧ NX E G F nS pN bN lN' ty W D tk LO sl sp S bt fc st lm go 1 τ' ρ' := by
  obtain ⟨e1, e2, hse, hF, hN, ⟨e3, e4, e5⟩, s1, s2, s3, k2, hsg, hk12⟩ := top_of h hd
  obtain ⟨hA, hT, _, _, _, _, _, _, n28, _⟩ := id hN
  have hsg0 : jSg S (jSd S - 1) = 0 := by
    have h5 := hse.2.2.2.2.1
    unfold stgOK at h5
    omega
  have hpd := pd_0 h hd hsg0
  subst hpd
  have hz := h.2.1.2.2.2.2
  obtain ⟨m1, m2⟩ := n28 hk
  obtain ⟨t1, t2, t3⟩ := held_ty hT hk
  have hFn := h.1.1.2.2 _ hF
  have hT14 := hFn.2.1.2.2.2.1 _ m1
  have hA2 := ty_A2 _ hT14
  obtain ⟨u1, u2, u3⟩ := ty_all _ hT14 _ (by omega) t1 hm0 (by rw [t2]; exact hse.2.1)
  have hbd := hse.2.2.1 _ m2
  have hH := h.1.2.2.2.2.1
  have hvt := hH.2.2.1.1 _ hse.1.1 _ m1 hbd
  obtain ⟨g, t, g1, g2, g3, g4⟩ := VT_fun hH u3 hvt
  have hbg := (h.1.1.2.2 g g1).1.2.2.2.1
  have hp8 := (h.1.1.2.2 g g1).2.1.1
  obtain ⟨q1, q2, q3, q4⟩ := lfv_dec hbg hT14 g4 u3
  obtain ⟨l1, l2⟩ := h.1.2.1.2.2.2.2.2.2 _ hse.1.1 _ m1 hbd
  have hfe := (hH.1.2 _ hse.1.1).2.1
  have hfe0 := hH.1.1
  have hni : ¬ (nI (jSd S - 1) < 0 ∨ 251 ≤ jSd S - 1) := fun z => by
    rcases z with z | z
    · exact nI_pos (by omega) z
    · omega
  have hni2 : ¬ (nI (jSk S (jSd S - 1)) < 0 ∨ 3000 ≤ jSk S (jSd S - 1)) := fun z => by
    rcases z with z | z
    · exact nI_pos (by omega) z
    · omega
  obtain ⟨b1, b2, b3⟩ := hA.2.2.2.2.2.2.2.2.2.2.2.2.1 (by omega)
  obtain ⟨c1, c3⟩ := hA.2.2.2.2.2.2.2.2.2.2.2.2.2.1 hk
  have hcs : ∀ j, j < dM (D (jSk S (jSd S - 1))) → dC (D (jSk S (jSd S - 1))) j < 1200 := fun j hj => by have := hA.2.2.1 j hj; omega
  have hsl : v_cMac_frame τ + jI_at 1201 (τ.1 33) (nI (jSk S (jSd S - 1) + 1)) = nI (jFb H (jSf S (jSd S - 1)) + dS (D (jSk S (jSd S - 1)))) := by
    rw [e2, jI_at_in (by omega) (by omega), c3, nI_add]
  obtain ⟨p1, p2, p3⟩ := h.1.2.1.2.2.1
  obtain ⟨o1, o2, o3⟩ := h.1.2.1.2.2.2.1
  have hG := hH.2.2.2.2
  generalize hvg : jLv H (jSf S (jSd S - 1)) (dS (D (jSk S (jSd S - 1)))) = v at *
  have er : rstg (dK (D (jSk S (jSd S - 1)))) 0 = 0 := by unfold rstg; rw [if_neg (by omega), if_neg (by omega)]
  rw [hsg0, er] at e5
  -- what it has got
  obtain ⟨ka, ka1, ka2⟩ := c_sg (τ := τ) hG (fun p hp => ⟨(p3 p hp).1.1, (p3 p hp).2.2.1⟩) t t v 0 0 (Nat.le_refl _) (by omega) g3
  obtain ⟨kb, τ1, kb1, kb2, kb3, kb4, kb5, kb6⟩ := c_ch (x1 := nI (jSk S (jSd S - 1) + 1)) (x4 := nI t) (x5 := nI (dM (D (jSk S (jSd S - 1))))) hG t t v 0 τ (Nat.le_refl _) (by omega) g3 (fun p hp => ⟨(p3 p hp).1.1, (p3 p hp).2.2.1, (p3 p hp).2.1.1⟩) (fun a ha => (o3 a ha ha).1)
  have h2' := RU2_of (RU1_of h.1)
  have hun0 : unus (dK (D (jSk S (jSd S - 1)))) (dM (D (jSk S (jSd S - 1)))) (jSg S (jSd S - 1)) = 0 := by
    rw [hsg0]; unfold unus; rw [if_neg (by omega), if_neg (by omega)]
  rw [hun0] at h2'
  have hk0 : keptS D S (jSd S - 1) = 0 := by unfold keptS; exact kept_n (by omega)
  have hsum : sumN (keptS D S) (jSd S) = sumN (keptS D S) (jSd S - 1) + keptS D S (jSd S - 1) := by
    have e : sumN (keptS D S) (jSd S - 1 + 1) = sumN (keptS D S) (jSd S - 1) + keptS D S (jSd S - 1) := rfl
    rw [show jSd S - 1 + 1 = jSd S by omega] at e
    exact e
  have h85 := h.1.2.2.1.2.1
  rw [hsum, hk0] at h85
  have h3 : RU2 E G F nS pN bN lN' ty W D tk LO sl sp H S 0 an bt fc st lm go τ1 ρ := RU2_keep h2' (fun r _ => by rw [kb3]) (fun d _ => by rw [kb3]) (fun r _ q => kb4 r q) (fun j _ => by rw [kb4 81 (by decide)]) (fun _ _ _ => rfl) (fun _ _ => rfl) (fun _ _ => rfl) (fun _ _ => rfl) (fun _ _ => rfl)
  obtain ⟨y7, z1, z2⟩ := r_146 (ρ := ρ) (t := jSd S - 1) (k := jSk S (jSd S - 1)) (b := jFb H (jSf S (jSd S - 1))) (m := dM (D (jSk S (jSd S - 1)))) (i := 0) (x6 := 0) (cs := dC (D (jSk S (jSd S - 1)))) (Nat.zero_le _) (by omega) hcs b3 (ρ.1 114 (jSk S (jSd S - 1))) (fun q => hA.2.2.2.2.2.2.2.2.2.1 q)
  obtain ⟨τ', ρ', r1, r2, r3⟩ := held_sim (H0 := H) (v := v) (t := t) (g := g) (b := jFb H (jSf S (jSd S - 1))) (ρ0 := ρ) (m := dM (D (jSk S (jSd S - 1)))) hd hk rfl hm0 g1 g3 (by omega) (by rw [← t2, u2]; exact q4) (fun i hi => by
    rw [t3 i hi]
    rcases (show i = 0 ∨ i = 1 by omega) with y | y
    · subst y; rw [Nat.add_zero]; exact q2.symm
    · subst y; exact (q3 (by omega)).symm) rfl hvg hG (fun a ha => (o3 a ha ha).2) (dM (D (jSk S (jSd S - 1)))) 0 H (fun _ => (0, 0)) y7 τ1 ρ (by omega) (Nat.zero_le _) ⟨h3, hz, h85, kb6, fun j hj => by omega, HX_refl, ⟨rfl, rfl, rfl, fun _ _ => ⟨rfl, rfl⟩, fun i h1 h2 => by omega, ⟨Nat.le_refl _, Nat.le_refl _⟩, hH.2.1.1⟩, fun _ _ => rfl⟩ z2
  refine ⟨τ', ρ', ?_, ?_, ?_⟩
  · rw [e1, c_wo hA hsg, if_neg hn100, hk, if_neg (by decide), if_neg (by decide), if_neg (by decide), if_neg (by decide), if_neg (by decide), if_neg (by decide), if_neg (by decide), if_pos (show nI 28 = (28 : Int32) from rfl), jI_at_in (by omega) (by omega), b2, if_neg (nI_nle (by omega) (by omega))]
    have hsz : p_cMac_sizeGot (cV v) τ = some (nI t, τ) := by
      unfold p_cMac_sizeGot p_cMac_sizeGot_8
      have := ka2 (100000000 - ka - 1)
      rw [show 100000000 - ka - 1 + ka + 1 = 100000000 by omega, Nat.zero_add] at this
      exact this
    have h54 : p_cMac_callHeld (nI (jSk S (jSd S - 1) + 1)) τ = some τ' := by
      unfold p_cMac_callHeld
      rw [hsl, jL_at_in (by omega) (by omega), l1, hsz, Option.bind_some]
      show p_cMac_callHeld_54 (nI (jSk S (jSd S - 1) + 1)) (cV v) (nI t) (jI_at 1201 (τ.1 35) (nI (jSk S (jSd S - 1) + 1))) (nI t) 0 τ = _
      rw [jI_at_in (by omega) (by omega), b2]
      unfold p_cMac_callHeld_54
      have := kb2 (100000000 - kb - 1)
      rw [show 100000000 - kb - 1 + kb + 1 = 100000000 by omega] at this
      refine Eq.trans this ?_
      unfold p_cMac_callHeld_175 p_cMac_callHeld_178
      have := r1 (100000000 - dM (D (jSk S (jSd S - 1))) - 1)
      rw [show 100000000 - dM (D (jSk S (jSd S - 1))) - 1 + dM (D (jSk S (jSd S - 1))) + 1 = 100000000 by omega] at this
      exact this
    rw [h54]; rfl
  · have h37 : p_r_workName_37 (nI (jSd S - 1)) (nI (jSk S (jSd S - 1))) (nI (jFb H (jSf S (jSd S - 1)))) ρ = some ρ' := by
      unfold p_r_workName_37 p_r_workName_84 p_r_workName_135
      rw [nI_clamp (show jSk S (jSd S - 1) < 2 ^ 31 by omega), if_neg hni2, nI_clamp (show jSd S - 1 < 2 ^ 31 by omega), if_neg hni, e5, if_pos (show ¬ nI 0 = (1000 : Int32) by decide), if_neg hni2, c1, if_pos (nI_pos' (by omega)), if_pos (show nI 0 < (500 : Int32) by decide), if_neg hni2, b1, z1]
      unfold p_r_workName_168
      have := r2 (100000000 - dM (D (jSk S (jSd S - 1))) - 1)
      rw [show 100000000 - dM (D (jSk S (jSd S - 1))) - 1 + dM (D (jSk S (jSd S - 1))) + 1 = 100000000 by omega] at this
      exact this
    rw [r_goh s2 hd s3 k2 e3 hk12 e4 hA.2.2.2.2.2.1, hk, if_pos (show 28 ≤ 28 by omega), if_pos (show nI 1 = (1 : Int32) from rfl)]
    unfold p_r_workName
    rw [nI_clamp (show jSk S (jSd S - 1) < 2 ^ 31 by omega), if_neg hni2, b1, if_pos (nI_ne0 (by omega) (by omega)), h37]
    rfl
  · rcases r3 with r3 | ⟨H', S', an', r3, r4⟩
    · exact Or.inl r3
    · refine Or.inr ⟨H', S', 0, an', st + 1, r3, ?_⟩
      have hms := mea_set (S := S) (st := st) (lm := lm) (sg := 100) hd
      rw [hsg0] at hms
      have hr0 : remS 0 = 18 ∧ remS 100 = 1 := ⟨rfl, rfl⟩
      omega
