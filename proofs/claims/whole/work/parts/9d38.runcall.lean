/-! RUNS, 38: the reference calls. -/
theorem r_fo' {F : Nat} {pN bN : Nat → Nat} {ty : Nat → Nat → Nat} {W : Nat → Nat} {H : jHp} {gd : Nat → Prop} {g t : Nat} {v : aV} {ρ : jx_S} (hG : HIg F pN bN ty W H gd) (hr : ∀ p, p < jGn H → ρ.2 157 p = rV (jGo H p)) (ht : t ≤ 8) (h : fnV H v g t) : p_r_functionOf (rV v) ρ = some (nI g, ρ) := by
  obtain ⟨k, k1, k2⟩ := r_fo hG hr t t v (Nat.le_refl _) h
  unfold p_r_functionOf p_r_functionOf_2
  have := k2 (100000000 - k - 1)
  rw [show 100000000 - k - 1 + k + 1 = 100000000 by omega] at this
  exact this
theorem r_gb' {F : Nat} {pN bN : Nat → Nat} {ty : Nat → Nat → Nat} {W : Nat → Nat} {H : jHp} {gd : Nat → Prop} {g t : Nat} {v : aV} {ρ : jx_S} (hG : HIg F pN bN ty W H gd) (hr : ∀ p, p < jGn H → ρ.2 157 p = rV (jGo H p) ∧ ρ.1 159 p = nI (jGs H p)) (ht : t ≤ 8) (h : fnV H v g t) : p_r_gotBy (rV v) ρ = some (nI t, ρ) := by
  obtain ⟨k, k1, k2⟩ := r_gb hG hr t t v 0 (Nat.le_refl _) h
  unfold p_r_gotBy p_r_gotBy_5
  have := k2 (100000000 - k - 1)
  rw [show 100000000 - k - 1 + k + 1 = 100000000 by omega, Nat.zero_add] at this
  exact this
theorem r_pg' {F : Nat} {pN bN : Nat → Nat} {ty : Nat → Nat → Nat} {W : Nat → Nat} {H : jHp} {g b t : Nat} {v : aV} {σ : jx_S} (hG : HIg F pN bN ty W H (fun x => x < jAn H)) (ht8 : t ≤ 8) (hbt : b + t ≤ 30000) (h : fnV H v g t) (hr : ∀ p, p < jGn H → σ.2 157 p = rV (jGo H p) ∧ σ.1 159 p = nI (jGs H p) ∧ σ.1 158 p = nI (jGf H p)) (hg : ∀ a, a < jAn H → σ.2 160 a = rV (jAv H a)) : ∃ σ', p_r_putGot (rV v) (nI b) σ = some σ' ∧ σ'.1 = σ.1 ∧ (∀ r, r ≠ 150 → σ'.2 r = σ.2 r) ∧ (∀ j, (j < b ∨ b + t ≤ j) → σ'.2 150 j = σ.2 150 j) ∧ ∀ s, s < t → σ'.2 150 (b + s) = rV (gvf H t v t s) := by
  obtain ⟨k, σ', k1, k2, k3, k4, k5, k6⟩ := r_pg hG t t v σ (Nat.le_refl _) ht8 hbt h hr hg
  refine ⟨σ', ?_, k3, k4, k5, k6⟩
  unfold p_r_putGot p_r_putGot_10
  rw [r_gb' hG (fun p hp => ⟨(hr p hp).1, (hr p hp).2.1⟩) ht8 h, Option.bind_some]
  have := k2 (100000000 - k - 1)
  rw [show 100000000 - k - 1 + k + 1 = 100000000 by omega] at this
  exact this
theorem r_call {F : Nat} {pN bN : Nat → Nat} {ty : Nat → Nat → Nat} {W : Nat → Nat} {H : jHp} {g t m l n b a0 : Nat} {v : aV} {w : Nat → aV} {ρ : jx_S} (hG : HIg F pN bN ty W H (fun x => x < jAn H)) (hf : fnV H v g t) (hpa : ∀ p, p < jGn H → ρ.2 157 p = rV (jGo H p) ∧ ρ.1 159 p = nI (jGs H p) ∧ ρ.1 158 p = nI (jGf H p)) (hga : ∀ a, a < jAn H → ρ.2 160 a = rV (jAv H a)) (hg : g < 40) (ht : t + m ≤ 8) (htl : t + m ≤ l) (hl : l ≤ 30) (hb : b ≤ 30000) (h62 : ρ.1 106 62 = nI b) (h129 : ρ.1 129 g = nI l) (h131 : ρ.1 131 g = nI n) (h85 : ρ.1 106 85 = nI (a0 + m)) (ha0 : a0 + m ≤ 4000) (h166 : ∀ j, j < m → ρ.2 166 (a0 + j) = rV (w j)) :
  (b + l ≤ 30000 → ∃ ρ', p_r_call (rV v) (nI m) ρ = p_r_begin (nI n) (nI b) (-1) ρ' ∧ (∀ r, r ≠ 106 → ρ'.1 r = ρ.1 r) ∧ (∀ j, j ≠ 62 → j ≠ 91 → j ≠ 85 → ρ'.1 106 j = ρ.1 106 j) ∧ ρ'.1 106 62 = nI (b + l) ∧ ρ'.1 106 91 = ρ.1 106 91 + 1 ∧ ρ'.1 106 85 = nI a0 ∧ (∀ r, r ≠ 150 → ρ'.2 r = ρ.2 r) ∧ (∀ j, j < b → ρ'.2 150 j = ρ.2 150 j) ∧ (∀ s, s < t → ρ'.2 150 (b + s) = rV (gvf H t v t s)) ∧ ∀ j, j < m → ρ'.2 150 (b + t + j) = rV (w j)) ∧ (¬ b + l ≤ 30000 → p_r_call (rV v) (nI m) ρ = some (jx_i ρ 106 87 5)) := by
  have hfo := r_fo' (ρ := ρ) hG (fun p hp => (hpa p hp).1) (by omega) hf
  have hgi : ¬ (nI g < 0 ∨ 40 ≤ g) := fun z => by
    rcases z with z | z
    · exact nI_pos (by omega) z
    · omega
  constructor
  · intro hroom
    have hs0 : p_r_call (rV v) (nI m) ρ = p_r_call_66 (rV v) (nI m) (nI g) (nI b) 0 (jx_i (jx_i ρ 106 91 (ρ.1 106 91 + 1)) 106 62 (nI (b + l))) := by
      unfold p_r_call
      rw [hfo, Option.bind_some]
      show (if nI g < 0 ∨ 40 ≤ (nI g).toNatClampNeg then none else _) = _
      rw [nI_clamp (show g < 2 ^ 31 by omega), if_neg hgi, h62, h129, nI_add, if_pos (show nI (b + l) ≤ (30000 : Int32) from (nI_le hroom (by omega) : nI (b + l) ≤ nI 30000)), if_neg hgi]
    have hc122 : ∀ σ3 : jx_S, σ3.1 106 85 = nI a0 → (∀ j, j < m → σ3.2 166 (a0 + j) = rV (w j)) → σ3.1 131 g = nI n → ∃ σ4, p_r_call_122 (nI m) (nI g) (nI b) (nI t) 0 σ3 = p_r_begin (nI n) (nI b) (-1) σ4 ∧ σ4.1 = σ3.1 ∧ (∀ r, r ≠ 150 → σ4.2 r = σ3.2 r) ∧ (∀ j, j < b + t → σ4.2 150 j = σ3.2 150 j) ∧ ∀ j, j < m → σ4.2 150 (b + t + j) = rV (w j) := fun σ3 q1 q2 q3 => by
      unfold p_r_call_122
      obtain ⟨s1, ⟨σ', rfl, h1, h2, h3, h4⟩, e⟩ := loop_invx (f := fun s : Int32 × Int32 × Int32 × Int32 × Int32 × jx_S => p_r_call_122_s s.1 s.2.1 s.2.2.1 s.2.2.2.1 s.2.2.2.2.1 s.2.2.2.2.2) (fun k s => ∃ σ', s = (nI m, nI g, nI b, nI t, nI k, σ') ∧ σ'.1 = σ3.1 ∧ (∀ r, r ≠ 150 → σ'.2 r = σ3.2 r) ∧ (∀ j, j < b + t → σ'.2 150 j = σ3.2 150 j) ∧ ∀ j, j < k → σ'.2 150 (b + t + j) = rV (w j)) m (fun k s hk h => by
        obtain ⟨σ', rfl, h1, h2, h3, h4⟩ := h
        show ∃ s1, p_r_call_122_s (nI m) (nI g) (nI b) (nI t) (nI k) σ' = _ ∧ _
        unfold p_r_call_122_s
        rw [if_neg (nI_ge hk (by omega)), h1, q1, nI_add, nI_add, nI_add, if_neg (nI_in (show a0 + k < 4000 by omega) (by omega)), if_neg (nI_in (show b + t + k < 30000 by omega) (by omega)), nI_clamp (show a0 + k < 2 ^ 31 by omega), nI_clamp (show b + t + k < 2 ^ 31 by omega), h2 166 (by decide), q2 k hk]
        refine ⟨_, rfl, jx_l σ' 150 (b + t + k) (rV (w k)), by rw [← nI_succ], h1, fun r hr => ?_, fun j hj => ?_, fun i hi => ?_⟩
        · rw [s_l_ne hr]; exact h2 r hr
        · rw [s_l_eq, v_ne (by omega)]; exact h3 j hj
        · rw [s_l_eq]
          by_cases z : i = k
          · rw [z, v_eq rfl]
          · rw [v_ne (by omega)]; exact h4 i (by omega)) (s := (nI m, nI g, nI b, nI t, (0 : Int32), σ3)) ⟨σ3, rfl, rfl, fun _ _ => rfl, fun _ _ => rfl, fun i hi => by omega⟩ (X := fun s => p_r_begin (nI n) (nI b) (-1) s.2.2.2.2.2) (fun s hs => by
        obtain ⟨σ', rfl, h1, h2, h3, h4⟩ := hs
        show p_r_call_122_s (nI m) (nI g) (nI b) (nI t) (nI m) σ' = _
        unfold p_r_call_122_s
        rw [if_pos (nI_le (Nat.le_refl _) (by omega)), nI_clamp (show g < 2 ^ 31 by omega), if_neg hgi, h1, q3]
        show (Option.map Sum.inr ((p_r_begin (nI n) (nI b) (-1) σ').bind fun q => some q)) = _
        cases p_r_begin (nI n) (nI b) (-1) σ' <;> rfl) (n := 100000000) (by omega)
      exact ⟨σ', e, h1, h2, h3, h4⟩
    rw [hs0]
    unfold p_r_call_66
    obtain ⟨s1, ⟨σ', rfl, h1, h2, h3⟩, e⟩ := loop_invx (f := fun s : Int64 × Int32 × Int32 × Int32 × Int32 × jx_S => p_r_call_66_s s.1 s.2.1 s.2.2.1 s.2.2.2.1 s.2.2.2.2.1 s.2.2.2.2.2) (fun k s => ∃ σ', s = (rV v, nI m, nI g, nI b, nI k, σ') ∧ σ'.1 = (jx_i (jx_i ρ 106 91 (ρ.1 106 91 + 1)) 106 62 (nI (b + l))).1 ∧ (∀ r, r ≠ 150 → σ'.2 r = ρ.2 r) ∧ (∀ j, j < b → σ'.2 150 j = ρ.2 150 j)) l (fun k s hk h => by
      obtain ⟨σ', rfl, h1, h2, h3⟩ := h
      show ∃ s1, p_r_call_66_s (rV v) (nI m) (nI g) (nI b) (nI k) σ' = _ ∧ _
      unfold p_r_call_66_s
      rw [nI_clamp (show g < 2 ^ 31 by omega), if_neg hgi, h1, s_i_ne (by decide), s_i_ne (by decide), h129, if_neg (nI_ge hk (by omega)), nI_add, if_neg (nI_in (show b + k < 30000 by omega) (by omega)), nI_clamp (show b + k < 2 ^ 31 by omega)]
      refine ⟨_, rfl, jx_l σ' 150 (b + k) 0, by rw [← nI_succ], h1, fun r hr => ?_, fun j hj => ?_⟩
      · rw [s_l_ne hr]; exact h2 r hr
      · rw [s_l_eq, v_ne (by omega)]; exact h3 j hj) (s := (rV v, nI m, nI g, nI b, (0 : Int32), jx_i (jx_i ρ 106 91 (ρ.1 106 91 + 1)) 106 62 (nI (b + l)))) ⟨_, rfl, rfl, fun _ _ => rfl, fun _ _ => rfl⟩ (X := fun s => (p_r_putGot (rV v) (nI b) s.2.2.2.2.2).bind fun q2 => (p_r_gotBy (rV v) q2).bind fun q3 => p_r_call_122 (nI m) (nI g) (nI b) q3.1 0 (jx_i q3.2 106 85 ((q3.2.1 106 85) - nI m))) (fun s hs => by
      obtain ⟨σ', rfl, h1, h2, h3⟩ := hs
      show p_r_call_66_s (rV v) (nI m) (nI g) (nI b) (nI l) σ' = _
      unfold p_r_call_66_s
      rw [nI_clamp (show g < 2 ^ 31 by omega), if_neg hgi, h1, s_i_ne (by decide), s_i_ne (by decide), h129, if_pos (nI_le (Nat.le_refl _) (by omega))]) (n := 100000000) (by omega)
    have hr1 : ∀ p, p < jGn H → σ'.2 157 p = rV (jGo H p) ∧ σ'.1 159 p = nI (jGs H p) ∧ σ'.1 158 p = nI (jGf H p) := fun p hp => by
      rw [h2 157 (by decide), h1, s_i_ne (by decide), s_i_ne (by decide), s_i_ne (by decide), s_i_ne (by decide)]; exact hpa p hp
    obtain ⟨σ2, x1, x2, x3, x4, x5⟩ := r_pg' (σ := σ') (b := b) hG (by omega) (by omega) hf hr1 (fun a ha => by rw [h2 160 (by decide)]; exact hga a ha)
    have hgb2 := r_gb' (ρ := σ2) hG (fun p hp => by rw [x3 157 (by decide), x2]; exact ⟨(hr1 p hp).1, (hr1 p hp).2.1⟩) (by omega) hf
    have h85' : σ2.1 106 85 = nI (a0 + m) := by rw [x2, h1, s_i_eq, u_ne (by decide), s_i_eq, u_ne (by decide)]; exact h85
    obtain ⟨σ4, y1, y2, y3, y4, y5⟩ := hc122 (jx_i σ2 106 85 (nI a0)) (by rw [s_i_eq, u_eq rfl]) (fun j hj => by
      show σ2.2 166 (a0 + j) = _
      rw [x3 166 (by decide), h2 166 (by decide)]; exact h166 j hj) (by rw [s_i_ne (by decide), x2, h1, s_i_ne (by decide), s_i_ne (by decide)]; exact h131)
    refine ⟨σ4, ?_, fun r hr => ?_, fun j j1 j2 j3 => ?_, ?_, ?_, ?_, fun r hr => ?_, fun j hj => ?_, fun s hs => ?_, y5⟩
    · rw [e]
      show ((p_r_putGot (rV v) (nI b) σ').bind _) = _
      rw [x1, Option.bind_some, hgb2, Option.bind_some]
      show p_r_call_122 (nI m) (nI g) (nI b) (nI t) 0 (jx_i σ2 106 85 ((σ2.1 106 85) - nI m)) = _
      rw [h85', nI_sub (by omega), Nat.add_sub_cancel]
      exact y1
    · rw [y2, s_i_ne hr, x2, h1, s_i_ne hr, s_i_ne hr]
    · rw [y2, s_i_eq, u_ne j3, x2, h1, s_i_eq, u_ne j1, s_i_eq, u_ne j2]
    · rw [y2, s_i_eq, u_ne (by decide), x2, h1, s_i_eq, u_eq rfl]
    · rw [y2, s_i_eq, u_ne (by decide), x2, h1, s_i_eq, u_ne (by decide), s_i_eq, u_eq rfl]
    · rw [y2, s_i_eq, u_eq rfl]
    · rw [y3 r hr, s_i_2, x3 r hr, h2 r hr]
    · rw [y4 j (by omega), s_i_2, x4 j (by omega), h3 j hj]
    · rw [y4 _ (by omega), s_i_2, x5 s hs]
  · intro hroom
    unfold p_r_call
    rw [hfo, Option.bind_some]
    show (if nI g < 0 ∨ 40 ≤ (nI g).toNatClampNeg then none else _) = _
    rw [nI_clamp (show g < 2 ^ 31 by omega), if_neg hgi, h62, h129, nI_add, if_neg (show ¬ nI (b + l) ≤ (30000 : Int32) from (nI_ge (by omega) (by omega) : ¬ nI (b + l) ≤ nI 30000))]
