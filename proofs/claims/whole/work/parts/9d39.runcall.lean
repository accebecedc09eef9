/-! RUNS, 39: a call is made, in both. -/
theorem half : ∀ sg, sg < 20 → nI sg / (2 : Int32) = nI (sg / 2) ∧ nI sg - nI sg / (2 : Int32) * (2 : Int32) = nI (sg % 2) := by decide +kernel
theorem rV_inj {a b : aV} (ha : a.1 < 8) (hb : b.1 < 8) (h : rV a = rV b) : a = b := by
  have h1 : v_r_tagOf (rV a) s0 = nI a.1 := r_tag ha a.2 s0
  have h2 : v_r_tagOf (rV b) s0 = nI b.1 := r_tag hb b.2 s0
  have h3 := r_num a
  have h4 := r_num b
  rw [h] at h1 h3
  refine Prod.ext ?_ (h3.symm.trans h4)
  exact (nI_eq (by omega) (by omega)).1 (h1.symm.trans h2)
theorem VT_tag {F : Nat} {pN bN : Nat → Nat} {ty : Nat → Nat → Nat} {W : Nat → Nat} {H : jHp} {t : Nat} {v : aV} (h : VT F pN bN ty W H t v) : v.1 < 6 := by
  rcases h with h | h | h | h | h | h <;> omega
theorem fnV_grow {H H' : jHp} {v : aV} {g t : Nat} (hX : HX H H') (h : fnV H v g t) : fnV H' v g t := by
  rcases h with h | ⟨p, h1, h2, h3, h4⟩
  · exact Or.inl h
  · obtain ⟨a1, a2, _⟩ := hX.2.2.2 p h1
    exact Or.inr ⟨p, by have := hX.2.2.1; omega, h2, by rw [a1]; exact h3, by rw [a2]; exact h4⟩
theorem gvf_same {F : Nat} {pN bN : Nat → Nat} {ty : Nat → Nat → Nat} {W : Nat → Nat} {H H' : jHp} {g : Nat} (hG : HIg F pN bN ty W H (fun x => x < jAn H)) (hX : HX H H') (hA : ∀ p i, p < jGn H → i < jGs H p → jAv H' (jGf H p + i) = jAv H (jGf H p + i)) : ∀ n t v, t ≤ n → fnV H v g t → ∀ s, s < t → gvf H' n v t s = gvf H n v t s := by
  intro n
  induction n with
  | zero => intro t v ht h s hs; omega
  | succ n ih =>
    intro t v ht h s hs
    rcases fnV_step hG h with ⟨_, h2⟩ | ⟨p, h1, h2, h3, h4, ⟨h5, h6, h7, h7a⟩, h8, h9, h10⟩
    · omega
    · obtain ⟨a1, a2, a3, a4, a5⟩ := hX.2.2.2 p h1
      unfold gvf
      rw [h4, a3, a4, a5]
      by_cases z : t - jGs H p ≤ s
      · rw [if_pos z, if_pos z]; exact hA p _ h1 (by omega)
      · rw [if_neg z, if_neg z]; exact ih _ _ (by omega) h10 s (by omega)
theorem EN_keep2 {H : jHp} {go : Nat} {τ ρ τ' ρ' : jx_S} (h : EN H go τ ρ) (c1 : τ'.1 8 14 = τ.1 8 14) (c2 : τ'.1 71 = τ.1 71) (c3 : τ'.1 9 = τ.1 9) (d1 : ∀ j, j ≠ 85 → ρ'.1 106 j = ρ.1 106 j) (d2 : ρ'.1 153 = ρ.1 153) : EN H go τ' ρ' := by
  unfold EN at h ⊢
  rw [c1, c2, c3, d1 87 (by decide), d1 88 (by decide), d1 83 (by decide), d1 91 (by decide), d1 92 (by decide), d1 70 (by decide), d1 67 (by decide), d1 93 (by decide), d1 95 (by decide), d1 96 (by decide), d2]
  exact h
theorem sum_kept {E : jEn} {G : jGh} {F : Nat} {nS pN bN lN' : Nat → Nat} {ty : Nat → Nat → Nat} {W : Nat → Nat} {D : Nat → jDs} {tk LO : Nat → Nat} {sl sp : Nat → Nat → Nat} {H : jHp} {S : jSt} {bt fc u : Nat} {τ ρ : jx_S} (h1 : RP E G F nS pN bN lN' ty W D tk LO sl sp τ ρ) (hH : HI E G F nS pN bN lN' ty W D tk LO sl sp H (fun x => x < jAn H)) (hS : SI1 E G F nS pN bN lN' ty W D tk LO sl sp H S bt fc u) (hd : jSd S ≤ 250) : sumN (keptS D S) (jSd S - 1) ≤ 2000 := by
  have := sumN_const (g := keptS D S) (k := 8) (jSd S - 1) (fun i hi => by
    have := kept8 h1 hH (hS.1 i (by omega))
    omega)
  omega
theorem call_fin {E : jEn} {G : jGh} {F : Nat} {nS pN bN lN' : Nat → Nat} {ty : Nat → Nat → Nat} {W : Nat → Nat} {D : Nat → jDs} {tk LO : Nat → Nat} {sl sp : Nat → Nat → Nat} {H : jHp} {S : jSt} {an v : aV} {bt fc st lm go g t m : Nat} {w : Nat → aV} {τ ρ : jx_S} (h : RU2 E G F nS pN bN lN' ty W D tk LO sl sp H S m an bt fc st lm go τ ρ) (hd : 0 < jSd S) (hz : BZ H S 0) (hK : dK (D (jSk S (jSd S - 1))) = 29 ∨ (dK (D (jSk S (jSd S - 1))) = 28 ∧ 0 < m)) (hm : dM (D (jSk S (jSd S - 1))) = m) (hg : g < F) (hf : fnV H v g t) (htm : t + m = pN g) (hbW : bN g = W (jSk S (jSd S - 1))) (h85 : ρ.1 106 85 = nI (sumN (keptS D S) (jSd S - 1) + m)) (h83 : ∀ s, s < t → τ.2 83 s = cV (gvf H t v t s)) (h83w : ∀ j, j < m → τ.2 83 (t + j) = cV (w j)) (h166 : ∀ j, j < m → ρ.2 166 (sumN (keptS D S) (jSd S - 1) + j) = rV (w j)) (hvw : ∀ j, j < m → VT F pN bN ty W H (ty g (t + j)) (w j)) : ∃ τ' ρ', p_cMac_enter (nI g) (jI_put 250 τ 79 (nI (jSd S - 1)) (100 : Int32)) = some τ' ∧ p_r_call (rV v) (nI m) (jx_i ρ 163 (jSd S - 1) (1000 : Int32)) = some ρ' ∧ ((∃ H', EN H' go τ' ρ') ∨ ∃ H' S' an', RUN E G F nS pN bN lN' ty W D tk LO sl sp H' S' 0 an' bt fc (st + 1) lm go τ' ρ' ∧ mea S' (st + 1) lm = mea (sSet S 100) st lm) := by
  have hs2000 := sum_kept h.1 h.2.2.2.2.1 h.2.2.2.2.2.1 h.2.2.1.1.2.2
  generalize ha0 : sumN (keptS D S) (jSd S - 1) = a0 at *
  have hd250 := h.2.2.1.1.2.2
  have hK28 : 28 ≤ dK (D (jSk S (jSd S - 1))) := by omega
  have h2 : RU2 E G F nS pN bN lN' ty W D tk LO sl sp H S m an bt fc st lm go (jI_put 250 τ 79 (nI (jSd S - 1)) (100 : Int32)) (jx_i (jx_i ρ 163 (jSd S - 1) (1000 : Int32)) 106 85 (nI a0)) := by
    refine RU2_keep h (fun r hr => s_p_ne hr) (fun d hd' => by rw [s_p_eq, jI_up_in (by omega) (by omega), u_ne (by omega)]) (fun _ _ _ => rfl) (fun _ _ => rfl) (fun r h1 h2 => by rw [s_i_ne h1, s_i_ne h2]) (fun j hj => by rw [s_i_eq, u_ne hj, s_i_ne (by decide)]) (fun d hd' => by rw [s_i_ne (by decide), s_i_eq, u_ne (by omega)]) (fun _ _ => rfl) (fun _ _ => rfl)
  have hR0 := RU0_close (sg := 100) (w := fun _ => (0, 0)) h2 hd (by rw [s_p_eq, jI_up_in (by omega) (by omega), u_eq rfl]; rfl) (by
    rw [s_i_ne (by decide), s_i_eq, u_eq rfl]
    unfold rstg
    rw [if_pos rfl, if_pos hK28]; rfl) (by rw [s_i_eq, u_eq rfl, kept_e (by omega), ha0, Nat.add_zero]) (fun j hj => by rw [kept_e (by omega)] at hj; omega) (fun q => by omega) (by
    unfold stgOK
    rcases hK with q | ⟨q, q2⟩
    · exact Or.inr (Or.inr (Or.inr (Or.inl ⟨q, Or.inl rfl⟩)))
    · exact Or.inr (Or.inr (Or.inl ⟨q, by omega, rfl⟩))) (by unfold unus; rw [if_pos rfl]; omega) (fun q => by omega)
  obtain ⟨⟨a1, a2, a3, a4, a5⟩, ⟨b1, b2, b3, b4, b5⟩, ⟨c1, c2, c3, c4, c5⟩, ⟨d1, d2, d3, d4, d5⟩, _⟩ := h.1.2.2 g hg
  have hF40 := h.1.1
  have hG := h.2.2.2.2.1.2.2.2.2
  have hfe := h.2.2.2.2.1.1.1
  obtain ⟨l1, l2, _⟩ := h.2.1.2.2.2.2
  obtain ⟨g1, g2, g3⟩ := h.2.1.2.2.1
  obtain ⟨o1, o2, o3⟩ := h.2.1.2.2.2.1
  have hvv : ∀ s, s < pN g → VT F pN bN ty W H (ty g s) (if s < t then gvf H t v t s else w (s - t)) := fun s hs => by
    by_cases z : s < t
    · rw [if_pos z]; exact gvf_VT hG t t v (Nat.le_refl _) hf s z
    · rw [if_neg z]
      have := hvw (s - t) (by omega)
      rw [show t + (s - t) = s by omega] at this
      exact this
  have hce := c_enter (τ := jI_put 250 τ 79 (nI (jSd S - 1)) (100 : Int32)) (g := g) (p := pN g) (l := lN' g) (n := nS (g + 1)) (b := jFe H) (v := fun s => if s < t then gvf H t v t s else w (s - t)) (by rw [s_p_ne (by decide)]; exact l1) (by rw [s_p_ne (by decide)]; exact c3) (by rw [s_p_ne (by decide)]; exact c1) (by rw [s_p_ne (by decide)]; exact c4) (by omega) b1 b2 b3 hfe (fun s hs => by
    show τ.2 83 s = cV (if s < t then gvf H t v t s else w (s - t))
    by_cases z : s < t
    · rw [if_pos z]; exact h83 s z
    · rw [if_neg z]
      have := h83w (s - t) (by omega)
      rw [show t + (s - t) = s by omega] at this
      exact this)
  have hrc := r_call (ρ := jx_i ρ 163 (jSd S - 1) (1000 : Int32)) (g := g) (t := t) (m := m) (l := lN' g) (n := nS (g + 1) - 1) (b := jFe H) (a0 := a0) (v := v) (w := w) hG hf (fun p hp => by
    rw [s_i_2, s_i_ne (by decide), s_i_ne (by decide)]
    exact ⟨(g3 p hp).1.2, (g3 p hp).2.2.2, (g3 p hp).2.1.2⟩) (fun a ha => (o3 a ha ha).2) (by omega) (by omega) (by omega) b3 hfe (by rw [s_i_ne (by decide)]; exact l2) (by rw [s_i_ne (by decide)]; exact d3) (by rw [s_i_ne (by decide)]; exact d4) (by rw [s_i_ne (by decide)]; exact h85) (by omega) h166
  by_cases hroom : jFe H + lN' g ≤ 30000
  · obtain ⟨τ2, x1, x2, x3, x4, x5⟩ := hce.1 hroom
    obtain ⟨ρ2, y1, y2, y3, y4, y5, y6, y7, y8, y9, y10⟩ := hrc.1 hroom
    have e71 : (jI_put 10 (jx_i (jI_put 250 τ 79 (nI (jSd S - 1)) (100 : Int32)) 9 14 (nI (jFe H + lN' g))) 71 (8 : Int32) (jI_at 10 ((jI_put 250 τ 79 (nI (jSd S - 1)) (100 : Int32)).1 71) (8 : Int32) + 1)).1 71 = upd (τ.1 71) 8 (τ.1 71 8 + 1) := by
      rw [s_p_eq, show (8 : Int32) = nI 8 from rfl, jI_up_in (by omega) (by omega), jI_at_in (by omega) (by omega), s_i_ne (by decide), s_p_ne (by decide)]
    obtain ⟨τ', ρ', r1, r2, r3⟩ := beg_fun (τ' := τ2) (ρ' := ρ2) (v := fun s => if s < t then gvf H t v t s else w (s - t)) hR0 hz hg hroom hvv (fun r q1 q2 => by rw [x2, s_p_ne q2, s_i_ne q1]) (fun j hj => by rw [x2, s_p_ne (by decide), s_i_eq, u_ne hj]) (by rw [x2, s_p_ne (by decide), s_i_eq, u_eq rfl]) (fun j hj => by rw [x2, e71, u_ne hj, s_p_ne (by decide)]) (by rw [x2, e71, u_eq rfl, s_p_ne (by decide)]) (fun r q1 _ => x3 r q1) (fun j hj => x4 j hj) (fun s hs => x5 s hs) (fun r hr => by rw [y2 r hr, s_i_ne hr]) (fun j q1 q2 => by
      rw [s_i_eq]
      by_cases z : j = 85
      · rw [u_eq z, z, y6]
      · rw [u_ne z, y3 j q1 q2 z]) y4 (by rw [y5, s_i_eq, u_ne (by decide)]) (fun r hr => y7 r hr) (fun j hj => y8 j hj) (fun s hs => by
      show ρ2.2 150 (jFe H + s) = rV (if s < t then gvf H t v t s else w (s - t))
      by_cases z : s < t
      · rw [if_pos z]; exact y9 s z
      · rw [if_neg z]
        have := y10 (s - t) (by omega)
        rw [show jFe H + t + (s - t) = jFe H + s by omega] at this
        exact this) (fun _ => by
      have egt : jSg (sSetW S 100 (fun _ => (0, 0))) (jSd (sSetW S 100 (fun _ => (0, 0))) - 1) = 100 := if_pos rfl
      refine ⟨⟨by rw [egt]; omega, fun q1 q2 => ?_, fun _ => rfl⟩, ?_⟩
      · exfalso
        have q1' : dK (D (jSk S (jSd S - 1))) = 28 := q1
        have q2' : dM (D (jSk S (jSd S - 1))) = 0 := q2
        omega
      · rw [egt]
        show bN g = xtyp W D (jSk S (jSd S - 1)) 100
        unfold xtyp
        rw [if_pos (Or.inl rfl)]
        exact hbW) (fun q => by
      have : jSd S = 0 := q
      omega)
    exact ⟨τ', ρ', x1.trans r1, y1.trans r2, r3⟩
  · refine ⟨_, _, hce.2 hroom, hrc.2 hroom, Or.inl ⟨H, EN_keep2 (EN_now hR0 5 (by omega) (by omega)) rfl rfl rfl (fun j hj => ?_) ?_⟩⟩
    · rw [s_i_eq, s_i_eq]
      by_cases z : j = 87
      · rw [u_eq z, u_eq z]; rfl
      · rw [u_ne z, u_ne z, s_i_eq, u_ne hj]
    · rw [s_i_ne (by decide), s_i_ne (by decide), s_i_ne (by decide), s_i_ne (by decide), s_i_ne (by decide)]
