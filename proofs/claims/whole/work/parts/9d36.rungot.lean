/-! RUNS, 36: what a function has got: along its chain, in both. -/
/-- what a function has got, in order -/
def gvf (H : jHp) : Nat → aV → Nat → Nat → aV
  | 0, _, _, _ => (0, 0)
  | n + 1, v, t, s => if t - jGs H v.2.toNatClampNeg ≤ s then jAv H (jGf H v.2.toNatClampNeg + (s - (t - jGs H v.2.toNatClampNeg))) else gvf H n (jGo H v.2.toNatClampNeg) (t - jGs H v.2.toNatClampNeg) s
theorem fnV_step {F : Nat} {pN bN : Nat → Nat} {ty : Nat → Nat → Nat} {W : Nat → Nat} {H : jHp} {gd : Nat → Prop} {g t : Nat} {v : aV} (hG : HIg F pN bN ty W H gd) (h : fnV H v g t) : (v = (4, nI g) ∧ t = 0) ∨ ∃ p, p < jGn H ∧ p < 6000 ∧ v = (5, nI p) ∧ v.2.toNatClampNeg = p ∧ (1 ≤ jGs H p ∧ jGs H p ≤ t ∧ jGf H p + jGs H p ≤ jAn H ∧ jAn H ≤ 6000) ∧ jGg H p = g ∧ jGt H p = t ∧ fnV H (jGo H p) g (t - jGs H p) := by
  rcases h with h | ⟨p, h1, h2, h3, h4⟩
  · exact Or.inl h
  · right
    obtain ⟨⟨a1, a2, a3, a4, a5, a6⟩, b, c⟩ := hG.2.2 p h1
    have hg1 := hG.1
    have hg2 := hG.2.1
    refine ⟨p, h1, by omega, h2, by rw [h2]; exact nI_clamp (by omega), ⟨a2, by omega, a5, hg2⟩, h3, h4, ?_⟩
    rcases b with ⟨b1, b2⟩ | ⟨q, b1, b2, b3, b4⟩
    · exact Or.inl ⟨by rw [b1, h3], by omega⟩
    · exact Or.inr ⟨q, by omega, b2, by rw [b3, h3], by omega⟩
theorem gvf_VT {F : Nat} {pN bN : Nat → Nat} {ty : Nat → Nat → Nat} {W : Nat → Nat} {H : jHp} {g : Nat} (hG : HIg F pN bN ty W H (fun x => x < jAn H)) : ∀ n t v, t ≤ n → fnV H v g t → ∀ s, s < t → VT F pN bN ty W H (ty g s) (gvf H n v t s) := by
  intro n
  induction n with
  | zero => intro t v ht h s hs; omega
  | succ n ih =>
    intro t v ht h s hs
    rcases fnV_step hG h with ⟨_, h2⟩ | ⟨p, h1, h2, h3, h4, ⟨h5, h6, h7, h7a⟩, h8, h9, h10⟩
    · omega
    · unfold gvf
      rw [h4]
      by_cases z : t - jGs H p ≤ s
      · rw [if_pos z]
        have := (hG.2.2 p h1).2.2 (s - (t - jGs H p)) (by omega) (show jGf H p + (s - (t - jGs H p)) < jAn H by omega)
        rw [h8, h9, show t - jGs H p + (s - (t - jGs H p)) = s by omega] at this
        exact this
      · rw [if_neg z]
        exact ih _ _ (by omega) h10 s (by omega)
/-- the reference: the function -/
theorem r_fo {F : Nat} {pN bN : Nat → Nat} {ty : Nat → Nat → Nat} {W : Nat → Nat} {H : jHp} {gd : Nat → Prop} {g : Nat} {ρ : jx_S} (hG : HIg F pN bN ty W H gd) (hr : ∀ p, p < jGn H → ρ.2 157 p = rV (jGo H p)) : ∀ n t v, t ≤ n → fnV H v g t → ∃ k, k ≤ t ∧ ∀ N, jx_loop (N + k + 1) (fun s : Int64 × jx_S => p_r_functionOf_2_s s.1 s.2) (rV v, ρ) = some (nI g, ρ) := by
  intro n
  induction n with
  | zero =>
    intro t v ht h
    rcases fnV_step hG h with ⟨h1, h2⟩ | ⟨p, h1, h2, h3, h4, ⟨h5, h6, h7⟩, h8⟩
    · refine ⟨0, Nat.zero_le _, fun N => jx_loop_out (X := some (nI g, ρ)) ?_ N⟩
      show p_r_functionOf_2_s (rV v) ρ = _
      unfold p_r_functionOf_2_s
      rw [h1, r_tag (by omega), if_pos (show ¬ nI 4 = (5 : Int32) by decide), r_num]
    · omega
  | succ n ih =>
    intro t v ht h
    rcases fnV_step hG h with ⟨h1, h2⟩ | ⟨p, h1, h2, h3, h4, ⟨h5, h6, h7, h7a⟩, h8, h9, h10⟩
    · refine ⟨0, Nat.zero_le _, fun N => jx_loop_out (X := some (nI g, ρ)) ?_ N⟩
      show p_r_functionOf_2_s (rV v) ρ = _
      unfold p_r_functionOf_2_s
      rw [h1, r_tag (by omega), if_pos (show ¬ nI 4 = (5 : Int32) by decide), r_num]
    · obtain ⟨k, k1, k2⟩ := ih _ _ (by omega) h10
      refine ⟨k + 1, by omega, fun N => ?_⟩
      rw [show N + (k + 1) + 1 = (N + k + 1) + 1 by omega]
      rw [jx_loop_inl (s1 := (rV (jGo H p), ρ))]
      · exact k2 N
      · show p_r_functionOf_2_s (rV v) ρ = _
        unfold p_r_functionOf_2_s
        rw [h3, r_tag (by omega), if_neg (show ¬ ¬ nI 5 = (5 : Int32) from fun q => q rfl), r_num, if_neg (nI_in h2 (by omega)), nI_clamp (show p < 2 ^ 31 by omega), hr p h1]
/-- the reference: how much it has got -/
theorem r_gb {F : Nat} {pN bN : Nat → Nat} {ty : Nat → Nat → Nat} {W : Nat → Nat} {H : jHp} {gd : Nat → Prop} {g : Nat} {ρ : jx_S} (hG : HIg F pN bN ty W H gd) (hr : ∀ p, p < jGn H → ρ.2 157 p = rV (jGo H p) ∧ ρ.1 159 p = nI (jGs H p)) : ∀ n t v c, t ≤ n → fnV H v g t → ∃ k, k ≤ t ∧ ∀ N, jx_loop (N + k + 1) (fun s : Int64 × Int32 × jx_S => p_r_gotBy_5_s s.1 s.2.1 s.2.2) (rV v, nI c, ρ) = some (nI (c + t), ρ) := by
  intro n
  induction n with
  | zero =>
    intro t v c ht h
    rcases fnV_step hG h with ⟨h1, h2⟩ | ⟨p, h1, h2, h3, h4, ⟨h5, h6, h7⟩, h8⟩
    · refine ⟨0, Nat.zero_le _, fun N => jx_loop_out (X := some (nI (c + t), ρ)) ?_ N⟩
      show p_r_gotBy_5_s (rV v) (nI c) ρ = _
      unfold p_r_gotBy_5_s
      rw [h1, r_tag (by omega), if_pos (show ¬ nI 4 = (5 : Int32) by decide), h2, Nat.add_zero]
    · omega
  | succ n ih =>
    intro t v c ht h
    rcases fnV_step hG h with ⟨h1, h2⟩ | ⟨p, h1, h2, h3, h4, ⟨h5, h6, h7, h7a⟩, h8, h9, h10⟩
    · refine ⟨0, Nat.zero_le _, fun N => jx_loop_out (X := some (nI (c + t), ρ)) ?_ N⟩
      show p_r_gotBy_5_s (rV v) (nI c) ρ = _
      unfold p_r_gotBy_5_s
      rw [h1, r_tag (by omega), if_pos (show ¬ nI 4 = (5 : Int32) by decide), h2, Nat.add_zero]
    · obtain ⟨k, k1, k2⟩ := ih _ _ (c + jGs H p) (by omega) h10
      refine ⟨k + 1, by omega, fun N => ?_⟩
      rw [show N + (k + 1) + 1 = (N + k + 1) + 1 by omega]
      rw [jx_loop_inl (s1 := (rV (jGo H p), nI (c + jGs H p), ρ))]
      · rw [k2 N, show c + jGs H p + (t - jGs H p) = c + t by omega]
      · show p_r_gotBy_5_s (rV v) (nI c) ρ = _
        unfold p_r_gotBy_5_s
        rw [h3, r_tag (by omega), if_neg (show ¬ ¬ nI 5 = (5 : Int32) from fun q => q rfl), r_num, if_neg (nI_in h2 (by omega)), if_neg (nI_in h2 (by omega)), nI_clamp (show p < 2 ^ 31 by omega), (hr p h1).1, (hr p h1).2, nI_add]
/-- the reference: one function's own atoms are laid down -/
theorem r_pg1 {σ : jx_S} {b t p m f : Nat} {w : Nat → aV} (hp : p < 6000) (hm : m ≤ t) (ht : t ≤ 8) (hb : b + t ≤ 30000) (h159 : σ.1 159 p = nI m) (h158 : σ.1 158 p = nI f) (hf : f + m ≤ 6000) (h160 : ∀ i, i < m → σ.2 160 (f + i) = rV (w i)) : ∃ σ', p_r_putGot_27 (nI b) (nI t) (nI p) 0 σ = some (.inl (nI b, σ.2 157 p, nI (t - m), σ')) ∧ σ'.1 = σ.1 ∧ (∀ r, r ≠ 150 → σ'.2 r = σ.2 r) ∧ (∀ j, (j < b + (t - m) ∨ b + t ≤ j) → σ'.2 150 j = σ.2 150 j) ∧ ∀ i, i < m → σ'.2 150 (b + (t - m) + i) = rV (w i) := by
  unfold p_r_putGot_27
  obtain ⟨s1, ⟨σ', rfl, h1, h2, h3, h4⟩, e⟩ := loop_invx (f := fun s : Int32 × Int32 × Int32 × Int32 × jx_S => p_r_putGot_27_s s.1 s.2.1 s.2.2.1 s.2.2.2.1 s.2.2.2.2) (fun k s => ∃ σ', s = (nI b, nI t, nI p, nI k, σ') ∧ σ'.1 = σ.1 ∧ (∀ r, r ≠ 150 → σ'.2 r = σ.2 r) ∧ (∀ j, (j < b + (t - m) ∨ b + t ≤ j) → σ'.2 150 j = σ.2 150 j) ∧ ∀ i, i < k → σ'.2 150 (b + (t - m) + i) = rV (w i)) m (fun k s hk h => by
    obtain ⟨σ', rfl, h1, h2, h3, h4⟩ := h
    show ∃ s1, p_r_putGot_27_s (nI b) (nI t) (nI p) (nI k) σ' = _ ∧ _
    unfold p_r_putGot_27_s
    have ep : ((nI b + nI t) - nI m) + nI k = nI (b + (t - m) + k) := by
      rw [nI_add, nI_sub (by omega), nI_add, show b + t - m + k = b + (t - m) + k by omega]
    have hpi : ¬ (nI p < 0 ∨ 6000 ≤ p) := fun z => by
      rcases z with z | z
      · exact nI_pos (by omega) z
      · omega
    rw [nI_clamp (show p < 2 ^ 31 by omega), h1, h159, h158, if_neg hpi, if_neg (nI_ge hk (by omega)), if_neg hpi, if_neg hpi, nI_add, if_neg (nI_in (show f + k < 6000 by omega) (by omega)), ep, if_neg (nI_in (show b + (t - m) + k < 30000 by omega) (by omega)), nI_clamp (show f + k < 2 ^ 31 by omega), nI_clamp (show b + (t - m) + k < 2 ^ 31 by omega), h2 160 (by decide), h160 k hk]
    refine ⟨_, rfl, jx_l σ' 150 (b + (t - m) + k) (rV (w k)), by rw [← nI_succ], h1, fun r hr => ?_, fun j hj => ?_, fun i hi => ?_⟩
    · rw [s_l_ne hr]; exact h2 r hr
    · rw [s_l_eq, v_ne (by omega)]; exact h3 j hj
    · rw [s_l_eq]
      by_cases z : i = k
      · rw [z, v_eq rfl]
      · rw [v_ne (by omega)]; exact h4 i (by omega)) (s := (nI b, nI t, nI p, (0 : Int32), σ)) ⟨σ, rfl, rfl, fun _ _ => rfl, fun _ _ => rfl, fun i hi => by omega⟩ (X := fun s => some (.inl (nI b, σ.2 157 p, nI (t - m), s.2.2.2.2))) (fun s hs => by
    obtain ⟨σ', rfl, h1, h2, h3, h4⟩ := hs
    show p_r_putGot_27_s (nI b) (nI t) (nI p) (nI m) σ' = _
    have hpi : ¬ (nI p < 0 ∨ 6000 ≤ p) := fun z => by
      rcases z with z | z
      · exact nI_pos (by omega) z
      · omega
    unfold p_r_putGot_27_s
    rw [nI_clamp (show p < 2 ^ 31 by omega), h1, h159, if_neg hpi, if_pos (nI_le (Nat.le_refl _) (by omega)), if_neg hpi, if_neg hpi, h2 157 (by decide), nI_sub hm]) (n := 100000000) (by omega)
  exact ⟨σ', e, h1, h2, h3, h4⟩
/-- the reference: all of it -/
theorem r_pg {F : Nat} {pN bN : Nat → Nat} {ty : Nat → Nat → Nat} {W : Nat → Nat} {H : jHp} {g b : Nat} (hG : HIg F pN bN ty W H (fun x => x < jAn H)) : ∀ n t v (σ : jx_S), t ≤ n → t ≤ 8 → b + t ≤ 30000 → fnV H v g t → (∀ p, p < jGn H → σ.2 157 p = rV (jGo H p) ∧ σ.1 159 p = nI (jGs H p) ∧ σ.1 158 p = nI (jGf H p)) → (∀ a, a < jAn H → σ.2 160 a = rV (jAv H a)) → ∃ k σ', k ≤ t ∧ (∀ N, jx_loop (N + k + 1) (fun s : Int32 × Int64 × Int32 × jx_S => p_r_putGot_10_s s.1 s.2.1 s.2.2.1 s.2.2.2) (nI b, rV v, nI t, σ) = some σ') ∧ σ'.1 = σ.1 ∧ (∀ r, r ≠ 150 → σ'.2 r = σ.2 r) ∧ (∀ j, (j < b ∨ b + t ≤ j) → σ'.2 150 j = σ.2 150 j) ∧ ∀ s, s < t → σ'.2 150 (b + s) = rV (gvf H n v t s) := by
  intro n
  induction n with
  | zero =>
    intro t v σ ht ht8 hbt h _ _
    rcases fnV_step hG h with ⟨h1, h2⟩ | ⟨p, h1, h2, h3, h4, ⟨h5, h6, h7⟩, h8⟩
    · refine ⟨0, σ, Nat.zero_le _, fun N => jx_loop_out (X := some σ) ?_ N, rfl, fun _ _ => rfl, fun _ _ => rfl, fun s hs => by omega⟩
      show p_r_putGot_10_s (nI b) (rV v) (nI t) σ = _
      unfold p_r_putGot_10_s
      rw [h1, r_tag (by omega), if_pos (show ¬ nI 4 = (5 : Int32) by decide)]
    · omega
  | succ n ih =>
    intro t v σ ht ht8 hbt h hr hg
    rcases fnV_step hG h with ⟨h1, h2⟩ | ⟨p, h1, h2, h3, h4, ⟨h5, h6, h7, h7a⟩, h8, h9, h10⟩
    · refine ⟨0, σ, Nat.zero_le _, fun N => jx_loop_out (X := some σ) ?_ N, rfl, fun _ _ => rfl, fun _ _ => rfl, fun s hs => by omega⟩
      show p_r_putGot_10_s (nI b) (rV v) (nI t) σ = _
      unfold p_r_putGot_10_s
      rw [h1, r_tag (by omega), if_pos (show ¬ nI 4 = (5 : Int32) by decide)]
    · obtain ⟨r1, r2, r3⟩ := hr p h1
      obtain ⟨σ1, x1, x2, x3, x4, x5⟩ := r_pg1 (σ := σ) (b := b) (t := t) (p := p) (m := jGs H p) (f := jGf H p) (w := fun i => jAv H (jGf H p + i)) h2 h6 ht8 hbt r2 r3 (by omega) (fun i hi => hg _ (by omega))
      obtain ⟨k, σ', k1, k2, k3, k4, k5, k6⟩ := ih (t - jGs H p) (jGo H p) σ1 (by omega) (by omega) (by omega) h10 (fun q hq => by rw [x2, x3 157 (by decide)]; exact hr q hq) (fun a ha => by rw [x3 160 (by decide)]; exact hg a ha)
      refine ⟨k + 1, σ', by omega, fun N => ?_, k3.trans x2, fun r hr' => (k4 r hr').trans (x3 r hr'), fun j hj => ?_, fun s hs => ?_⟩
      · rw [show N + (k + 1) + 1 = (N + k + 1) + 1 by omega]
        rw [jx_loop_inl (s1 := (nI b, rV (jGo H p), nI (t - jGs H p), σ1))]
        · exact k2 N
        · show p_r_putGot_10_s (nI b) (rV v) (nI t) σ = _
          unfold p_r_putGot_10_s
          rw [h3, r_tag (by omega), if_neg (show ¬ ¬ nI 5 = (5 : Int32) from fun q => q rfl), r_num, show ((5, nI p) : aV).2 = nI p from rfl, x1, r1]
      · rw [k5 j (by omega), x4 j (by omega)]
      · unfold gvf
        rw [h4]
        by_cases z : t - jGs H p ≤ s
        · rw [if_pos z, k5 (b + s) (by omega)]
          have := x5 (s - (t - jGs H p)) (by omega)
          rw [show b + (t - jGs H p) + (s - (t - jGs H p)) = b + s by omega] at this
          exact this
        · rw [if_neg z]
          exact k6 s (by omega)
