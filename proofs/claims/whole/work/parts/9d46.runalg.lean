/-! RUNS, 46: behind a run: the list is gone along: what a cell's part holds is worked. -/
theorem RU0_out {E : jEn} {G : jGh} {F : Nat} {nS pN bN lN' : Nat → Nat} {ty : Nat → Nat → Nat} {W : Nat → Nat} {D : Nat → jDs} {tk LO : Nat → Nat} {sl sp : Nat → Nat → Nat} {H : jHp} {S : jSt} {an : aV} {bt fc bt' fc' st lm go go' pd : Nat} {τ ρ τ' ρ' : jx_S} (h : RU0 E G F nS pN bN lN' ty W D tk LO sl sp H S pd an bt fc st lm go τ ρ) (hd : jSd S = 0) (c1 : ∀ r, r ∉ [8, 71, 73] → τ'.1 r = τ.1 r) (c2 : ∀ j, j ≤ 14 → τ'.1 8 j = τ.1 8 j) (c3 : ∀ j, j ≠ 6 → τ'.1 71 j = τ.1 71 j) (c3a : τ'.1 71 6 = nI go') (c4 : ∀ r, r ≠ 8 → τ'.2 r = τ.2 r) (d1 : ∀ r, r ∉ [106, 167] → ρ'.1 r = ρ.1 r) (d2 : ∀ j, j ≠ 95 → ρ'.1 106 j = ρ.1 106 j) (d2a : ρ'.1 106 95 = nI go') (d3 : ∀ r, r ≠ 106 → ρ'.2 r = ρ.2 r) : RU0 E G F nS pN bN lN' ty W D tk LO sl sp H S pd an bt' fc' st lm go' τ' ρ' := by
  obtain ⟨h1, ⟨hp, hc, hg, ho, hl⟩, ⟨⟨s1, s2, s3⟩, s4, s5⟩, ⟨k1, k2, k3, k4, k5, k6, k7, k8, k9⟩, hH, ⟨i1, i2, i3, i4⟩, h13⟩ := h
  refine ⟨RP_keep h1 (fun r hr => c1 r (by revert hr; revert r; decide)) (c4 19 (by decide)) (fun r hr => d1 r (by revert hr; revert r; decide)), ⟨?_, ?_, ?_, ?_, ?_⟩, ⟨⟨?_, ?_, s3⟩, ?_, fun d hd' => absurd hd' (by omega)⟩, ⟨?_, ?_, ?_, ?_, ?_, ?_, ?_, ⟨?_, c3a, ?_⟩, ?_, d2a, ?_⟩, hH, ⟨i1, i2, fun q => absurd q (by omega), i4⟩, ?_⟩
  · unfold RPu at hp ⊢; rw [c1 9 (by decide), d2 67 (by decide), c1 89 (by decide), d1 151 (by decide), c1 91 (by decide), d1 152 (by decide), c1 93 (by decide), d1 153 (by decide), c4 95 (by decide), d3 154 (by decide)]; exact hp
  · unfold RCe at hc ⊢; rw [c1 9 (by decide), d2 70 (by decide), c4 85 (by decide), c4 87 (by decide), d3 155 (by decide), d3 156 (by decide)]; exact hc
  · unfold RPa at hg ⊢; rw [c1 9 (by decide), d2 74 (by decide), c4 101 (by decide), d3 157 (by decide), c1 103 (by decide), d1 158 (by decide), c1 105 (by decide), d1 159 (by decide)]; exact hg
  · unfold RGo at ho ⊢; rw [c1 9 (by decide), d2 76 (by decide), c4 99 (by decide), d3 160 (by decide)]; exact ho
  · unfold RLo at hl ⊢; rw [c1 9 (by decide), d2 62 (by decide), c4 97 (by decide), d3 150 (by decide)]; exact hl
  · rw [c2 11 (by decide)]; exact s1
  · rw [d2 82 (by decide)]; exact s2
  · rw [d2 85 (by decide)]; exact s4
  · rw [c2 14 (by decide)]; exact k1
  · rw [d2 87 (by decide)]; exact k2
  · rw [c3 0 (by decide), d2 88 (by decide)]; exact k3
  · rw [c2 12 (by decide), d2 89 (by decide)]; exact k4
  · rw [c3 4 (by decide), d2 83 (by decide)]; exact k5
  · rw [c3 8 (by decide), c3 9 (by decide), d2 91 (by decide), d2 92 (by decide)]; exact k6
  · rw [c2 13 (by decide), d2 86 (by decide)]; exact k7
  · rw [c3 5 (by decide)]; exact k8.1
  · rw [c3 7 (by decide)]; exact k8.2.2
  · rw [d2 93 (by decide)]; exact k9.1
  · rw [d2 96 (by decide)]; exact k9.2.2
  · rw [c1 9 (by decide)]; exact h13
theorem RU0_an {E : jEn} {G : jGh} {F : Nat} {nS pN bN lN' : Nat → Nat} {ty : Nat → Nat → Nat} {W : Nat → Nat} {D : Nat → jDs} {tk LO : Nat → Nat} {sl sp : Nat → Nat → Nat} {H : jHp} {S : jSt} {an an' : aV} {bt fc st lm go : Nat} {τ ρ : jx_S} (h : RU0 E G F nS pN bN lN' ty W D tk LO sl sp H S 0 an bt fc st lm go τ ρ) : RU0 E G F nS pN bN lN' ty W D tk LO sl sp H S 0 an' bt fc st lm go τ ρ := ⟨h.1, ⟨RPu_an h.2.1.1, h.2.1.2⟩, h.2.2⟩
/-- between two parts of the list -/
def AL (E : jEn) (G : jGh) (F : Nat) (nS pN bN lN' : Nat → Nat) (ty : Nat → Nat → Nat) (W : Nat → Nat) (D : Nat → jDs) (tk LO : Nat → Nat) (sl sp : Nat → Nat → Nat) (H : jHp) (S : jSt) (pd : Nat) (an : aV) (T st lm go : Nat) (τ ρ : jx_S) : Prop := RU0 E G F nS pN bN lN' ty W D tk LO sl sp H S pd an 0 0 st lm go τ ρ ∧ jSd S = 0 ∧ BZ H S pd ∧ (pd ≠ 0 → pd ≤ jPn H ∧ jPs H (pd - 1) = 1 ∧ VT F pN bN ty W H (W (jPk H (pd - 1))) an) ∧ an.1 < 3 ∧ VT F pN bN ty W H T an ∧ τ.2 8 15 = cV an ∧ τ.1 8 18 = (if pd = 0 then -1 else nI (pd - 1))
theorem mea_0 {S : jSt} {st lm : Nat} (h : jSd S = 0) : mea S st lm = 18 * (lm - st) := by
  unfold mea
  rw [h]; rfl
theorem r_goE {H : jHp} {go : Nat} {τ ρ : jx_S} (h : EN H go τ ρ) : p_r_go ρ = some ρ := by
  unfold p_r_go p_r_go_0
  exact jx_loop_inr (n := 99999999) (r_end h)
theorem force_sim {E : jEn} {G : jGh} {F : Nat} {nS pN bN lN' : Nat → Nat} {ty : Nat → Nat → Nat} {W : Nat → Nat} {D : Nat → jDs} {tk LO : Nat → Nat} {sl sp : Nat → Nat → Nat} {H : jHp} {S : jSt} {an0 v : aV} {T st lm go : Nat} {τ ρ : jx_S} (h : RU0 E G F nS pN bN lN' ty W D tk LO sl sp H S 0 an0 0 0 st lm go τ ρ) (hd : jSd S = 0) (hz : BZ H S 0) (hT : T < 2) (hv : VT F pN bN ty W H T v) (h18 : τ.1 8 18 = -1) : ∃ j τ1 τ' y ρ', p_cMac_force (cV v) τ = some τ1 ∧ tks j τ1 τ' ∧ p_r_worked (rV v) ρ = some (y, ρ') ∧ j ≤ 18 * (lm - st) + 10 ∧ ((∃ H', EN H' go τ' ρ') ∨ ∃ H' S' pd' an' st', AL E G F nS pN bN lN' ty W D tk LO sl sp H' S' pd' an' T st' lm go τ' ρ' ∧ y = rV an' ∧ 18 * (lm - st') + j ≤ 18 * (lm - st) ∧ jCn H ≤ jCn H') := by
  have ht : v_cHea_tagOf (cV v) τ = nI (v.1 + 1) := c_tag (t := v.1) (by have := VT_tag hv; omega) v.2 τ
  have htr : v_r_tagOf (rV v) ρ = nI v.1 := r_tag (t := v.1) (by have := VT_tag hv; omega) v.2 ρ
  have hcase : (v.1 < 3) ∨ (v.1 = 3 ∧ ∃ i, i < jPn H ∧ v.2 = nI i ∧ W (jPk H i) = T) := by
    rcases hv with q | q | q | q | q | q
    · exact Or.inl (by omega)
    · exact Or.inl (by omega)
    · exact Or.inl (by omega)
    · exact Or.inr q
    · omega
    · omega
  have hk8 := h.2.2.2.1.2.2.2.2.2.2.2.1
  have hk9 := h.2.2.2.1.2.2.2.2.2.2.2.2
  -- the answer is known
  have now : ∀ a : aV, a.1 < 3 → VT F pN bN ty W H T a → AL E G F nS pN bN lN' ty W D tk LO sl sp H S 0 a T st lm go (jx_l τ 8 15 (cV a)) ρ := fun a ha hva => by
    refine ⟨RU0_an (an := an0) (RU0_out (bt := 0) (fc := 0) h hd (fun _ _ => rfl) (fun _ _ => rfl) (fun _ _ => rfl) hk8.2.1 (fun r hr => s_l_ne hr) (fun _ _ => rfl) (fun _ _ => rfl) hk9.2.1 (fun _ _ => rfl)), hd, hz, fun q => absurd rfl q, ha, hva, ?_, ?_⟩
    · rw [s_l_eq, v_eq rfl]
    · rw [if_pos rfl]; exact h18
  rcases hcase with hv3 | ⟨hv3, i, hi, hvi, hWi⟩
  · refine ⟨0, jx_l τ 8 15 (cV v), jx_l τ 8 15 (cV v), rV v, ρ, ?_, rfl, ?_, by omega, Or.inr ⟨H, S, 0, v, st, now v hv3 hv, rfl, by omega, Nat.le_refl _⟩⟩
    · unfold p_cMac_force
      rw [ht, if_neg (show ¬ nI (v.1 + 1) = (4 : Int32) from fun q => by have := (nI_eq (b := 4) (by omega) (by omega)).1 q; omega)]
    · unfold p_r_worked
      rw [htr, if_neg (show ¬ nI v.1 = (3 : Int32) from fun q => by have := (nI_eq (b := 3) (by omega) (by omega)).1 q; omega)]
  · obtain ⟨⟨u1, u2⟩, ⟨u3, u4⟩, ⟨u5, u6⟩, u7, _⟩ := h.2.1.1.2.2 i hi
    rw [if_neg (by omega)] at u6
    have hpn := h.2.2.2.2.1.2.1.1
    obtain ⟨b1, b2, b3, b4, b5, b6, b7⟩ := h.2.2.2.2.1.2.1.2 i hi
    have hni3 : ¬ (nI i < 0 ∨ 3000 ≤ i) := fun z => by
      rcases z with z | z
      · exact nI_pos (by omega) z
      · omega
    rcases (show jPs H i = 0 ∨ jPs H i = 1 ∨ jPs H i = 2 by omega) with z | z | z
    · have hR : RU0 E G F nS pN bN lN' ty W D tk LO sl sp H S 0 an0 T (i + 1) st lm go (jx_i τ 8 18 (nI i)) ρ := RU0_out h hd (fun r hr => s_i_ne (fun q => hr (by rw [q]; decide))) (fun j hj => by rw [s_i_eq, u_ne (by omega)]) (fun j _ => by rw [s_i_ne (by decide)]) (by rw [s_i_ne (by decide)]; exact hk8.2.1) (fun _ _ => rfl) (fun _ _ => rfl) (fun _ _ => rfl) hk9.2.1 (fun _ _ => rfl)
      obtain ⟨τ2, ρ2, r1, r2, r3⟩ := beg_po (i := i) (τ' := jI_put 3000 (jx_i τ 8 18 (nI i)) 93 (nI i) 1) (ρ' := jx_i ρ 153 i 1) hR hz hi z (by rw [s_p_eq, jI_up_in (by omega) (by omega)]; rfl) (fun r hr => s_p_ne hr) rfl (by rw [s_i_eq]; rfl) (fun r hr => s_i_ne hr) rfl (fun q => by omega) (fun _ => ⟨hWi, rfl⟩)
      have hcf : p_cMac_force (cV v) τ = some τ2 := by
        unfold p_cMac_force p_cMac_beginPutOff
        rw [ht, hv3, if_pos (show nI (3 + 1) = (4 : Int32) from rfl), c_num, hvi, jI_at_in (by omega) (by omega), u5, z, if_pos (show ¬ nI 0 = (2 : Int32) by decide), s_i_ne (by decide), s_i_ne (by decide), jI_at_in (by omega) (by omega), jI_at_in (by omega) (by omega), u1, u3]
        have r1' : p_cMac_begin (nI (jPk H i + 1)) (nI (jFb H (jPf H i))) (jI_put 3000 (jx_i τ 8 18 (nI i)) 93 (nI i) (1 : Int32)) = some τ2 := r1
        rw [r1']; rfl
      have hrw : ∀ ρ3, p_r_go ρ2 = some ρ3 → p_r_worked (rV v) ρ = some (ρ3.2 106 90, ρ3) := fun ρ3 q => by
        unfold p_r_worked
        rw [htr, hv3, if_pos (show nI 3 = (3 : Int32) from rfl), r_num, hvi, nI_clamp (show i < 2 ^ 31 by omega)]
        simp only [if_neg hni3]
        rw [u6, z, if_neg (show ¬ nI 0 = (2 : Int32) by decide), u2, u4]
        have r2' : p_r_begin (nI (jPk H i)) (nI (jFb H (jPf H i))) (nI i) (jx_i ρ 153 i (1 : Int32)) = some ρ2 := r2
        rw [r2', Option.bind_some, q]; rfl
      have h18' : τ2.1 8 18 = nI i := by
        have := (f_cMac_begin _ _ _ _ jFr.rfl _ r1 8 18 (by decide) (by decide)).1
        rw [this, s_p_ne (by decide), s_i_eq, u_eq rfl]
      rcases r3 with ⟨H', r3⟩ | ⟨H1, S1, an1, r3, r4⟩
      · exact ⟨0, τ2, τ2, _, ρ2, hcf, rfl, hrw ρ2 (r_goE r3), by omega, Or.inl ⟨H', r3⟩⟩
      · rw [mea_0 hd] at r4
        obtain ⟨j, k, τ', ρ', t1, t2, t3, t4, t5⟩ := go_all (mea S1 (st + 1) lm) H1 S1 0 an1 (st + 1) τ2 ρ2 (Nat.le_refl _) r3
        have hlm := h.2.2.2.1.2.2.1.2.2.2
        have hgo : p_r_go ρ2 = some ρ' := by
          unfold p_r_go p_r_go_0
          have := t4 (100000000 - k - 1)
          rw [show 100000000 - k - 1 + k + 1 = 100000000 by omega] at this
          exact this
        refine ⟨j, τ2, τ', _, ρ', hcf, t1, hrw ρ' hgo, by omega, ?_⟩
        rcases t5 with t5 | ⟨H', S', pd', an', st', t5, t6, t7, t8⟩
        · exact Or.inl t5
        · right
          rw [mea_0 t6] at t7
          obtain ⟨q1, q2, q3⟩ := t5.2.1.1 t6
          obtain ⟨a1, a2⟩ := t5.2.2 (Or.inl t6)
          have hc1 : jCn H1 = jCn H := by
            have e1 := h.2.1.2.1.2.1
            have e2 := r3.1.2.1.2.1.2.1
            have e3 := (f_r_begin _ _ _ _ _ jFr.rfl _ r2 106 70 (by decide) (by decide)).1
            rw [s_i_ne (by decide), e1, e2] at e3
            have b1 := h.2.2.2.2.1.2.2.2.1.1
            have b2 := r3.1.2.2.2.2.1.2.2.2.1.1
            exact (nI_eq (by omega) (by omega)).1 e3
          refine ⟨H', S', pd', an', st', ⟨RU0_out t5.1 t6 (fun _ _ => rfl) (fun _ _ => rfl) (fun _ _ => rfl) t5.1.2.2.2.1.2.2.2.2.2.2.2.1.2.1 (fun _ _ => rfl) (fun _ _ => rfl) (fun _ _ => rfl) t5.1.2.2.2.1.2.2.2.2.2.2.2.2.2.1 (fun _ _ => rfl), t6, t5.2.1.2.2.2.2, t5.2.1.2.2.1, q1, q2, a1, ?_⟩, a2, by omega, by omega⟩
          rw [q3, if_neg (by omega), Nat.add_sub_cancel, (tks_fr t1 8 18 (by decide) (by decide)).1]
          exact h18'
    · exfalso
      rcases hz i hi z with q | ⟨d, q, _⟩
      · omega
      · omega
    · refine ⟨0, jx_l τ 8 15 (cV (jPv H i)), jx_l τ 8 15 (cV (jPv H i)), rV (jPv H i), ρ, ?_, rfl, ?_, by omega, Or.inr ⟨H, S, 0, jPv H i, st, now _ (b6 z).1 (by rw [← hWi]; exact (b6 z).2), rfl, by omega, Nat.le_refl _⟩⟩
      · unfold p_cMac_force
        rw [ht, hv3, if_pos (show nI (3 + 1) = (4 : Int32) from rfl), c_num, hvi, jI_at_in (by omega) (by omega), u5, z, if_neg (show ¬ ¬ nI 2 = (2 : Int32) from fun q => q rfl), jL_at_in (by omega) (by omega), (u7 z).1]
      · unfold p_r_worked
        rw [htr, hv3, if_pos (show nI 3 = (3 : Int32) from rfl), r_num, hvi, nI_clamp (show i < 2 ^ 31 by omega), if_neg hni3, u6, z, if_pos (show nI 2 = (2 : Int32) from rfl), if_neg hni3, (u7 z).2]
