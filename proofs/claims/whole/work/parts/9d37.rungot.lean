/-! RUNS, 37: what a function has got: the class; a call's own loops. -/
theorem c_sg {F : Nat} {pN bN : Nat → Nat} {ty : Nat → Nat → Nat} {W : Nat → Nat} {H : jHp} {gd : Nat → Prop} {g : Nat} {τ : jx_S} (hG : HIg F pN bN ty W H gd) (hr : ∀ p, p < jGn H → τ.2 101 p = cV (jGo H p) ∧ τ.1 105 p = nI (jGs H p)) : ∀ n t v c j, t ≤ n → j + t ≤ 8 → fnV H v g t → ∃ k, k ≤ t ∧ ∀ N, jx_loop (N + k + 1) (fun s : Int32 × Int64 × Int32 × jx_S => p_cMac_sizeGot_8_s s.1 s.2.1 s.2.2.1 s.2.2.2) (nI c, cV v, nI j, τ) = some (nI (c + t), τ) := by
  have hout : ∀ v c j t, j + t ≤ 8 → v = (4, nI g) → t = 0 → ∀ N, jx_loop (N + 0 + 1) (fun s : Int32 × Int64 × Int32 × jx_S => p_cMac_sizeGot_8_s s.1 s.2.1 s.2.2.1 s.2.2.2) (nI c, cV v, nI j, τ) = some (nI (c + t), τ) := fun v c j t hj h1 h2 N => by
    refine jx_loop_out (X := some (nI (c + t), τ)) ?_ N
    show p_cMac_sizeGot_8_s (nI c) (cV v) (nI j) τ = _
    unfold p_cMac_sizeGot_8_s
    rw [h1, h2, Nat.add_zero, c_tag (by omega), if_pos (show ¬ nI (4 + 1) = (6 : Int32) by decide)]
    split <;> rfl
  intro n
  induction n with
  | zero =>
    intro t v c j ht hj h
    rcases fnV_step hG h with ⟨h1, h2⟩ | ⟨p, h1, h2, h3, h4, ⟨h5, h6, h7⟩, h8⟩
    · exact ⟨0, Nat.zero_le _, hout v c j t hj h1 h2⟩
    · omega
  | succ n ih =>
    intro t v c j ht hj h
    rcases fnV_step hG h with ⟨h1, h2⟩ | ⟨p, h1, h2, h3, h4, ⟨h5, h6, h7, h7a⟩, h8, h9, h10⟩
    · exact ⟨0, Nat.zero_le _, hout v c j t hj h1 h2⟩
    · obtain ⟨k, k1, k2⟩ := ih _ _ (c + jGs H p) (j + 1) (by omega) (by omega) h10
      refine ⟨k + 1, by omega, fun N => ?_⟩
      rw [show N + (k + 1) + 1 = (N + k + 1) + 1 by omega]
      rw [jx_loop_inl (s1 := (nI (c + jGs H p), cV (jGo H p), nI (j + 1), τ))]
      · rw [k2 N, show c + jGs H p + (t - jGs H p) = c + t by omega]
      · show p_cMac_sizeGot_8_s (nI c) (cV v) (nI j) τ = _
        unfold p_cMac_sizeGot_8_s
        rw [if_neg (show ¬ (8 : Int32) ≤ nI j from (nI_ge (by omega) (by omega) : ¬ nI 8 ≤ nI j)), h3, c_tag (by omega), if_neg (show ¬ ¬ nI (5 + 1) = (6 : Int32) from fun q => q rfl), c_num, show ((5, nI p) : aV).2 = nI p from rfl, jI_at_in h2 (by omega), jL_at_in h2 (by omega), (hr p h1).1, (hr p h1).2, nI_add, ← nI_succ]
/-- the class: one function's own atoms are laid down -/
theorem c_ch1 {τ : jx_S} {x1 x4 x5 : Int32} {t p m f j : Nat} {w : Nat → aV} (hp : p < 6000) (hm : m ≤ t) (ht : t ≤ 8) (h105 : τ.1 105 p = nI m) (h103 : τ.1 103 p = nI f) (hf : f + m ≤ 6000) (h99 : ∀ i, i < m → τ.2 99 (f + i) = cV (w i)) : ∃ τ', p_cMac_callHeld_96 x1 x4 x5 (nI (t - m)) (nI j) (nI p) 0 τ = some (.inl (x1, τ.2 101 p, x4, x5, nI (t - m), nI (j + 1), τ')) ∧ τ'.1 = τ.1 ∧ (∀ r, r ≠ 83 → τ'.2 r = τ.2 r) ∧ (∀ j', (j' < t - m ∨ t ≤ j') → τ'.2 83 j' = τ.2 83 j') ∧ ∀ i, i < m → τ'.2 83 (t - m + i) = cV (w i) := by
  unfold p_cMac_callHeld_96
  obtain ⟨s1, ⟨σ', rfl, h1, h2, h3, h4⟩, e⟩ := loop_invx (f := fun s : Int32 × Int32 × Int32 × Int32 × Int32 × Int32 × Int32 × jx_S => p_cMac_callHeld_96_s s.1 s.2.1 s.2.2.1 s.2.2.2.1 s.2.2.2.2.1 s.2.2.2.2.2.1 s.2.2.2.2.2.2.1 s.2.2.2.2.2.2.2) (fun k s => ∃ σ', s = (x1, x4, x5, nI (t - m), nI j, nI p, nI k, σ') ∧ σ'.1 = τ.1 ∧ (∀ r, r ≠ 83 → σ'.2 r = τ.2 r) ∧ (∀ j', (j' < t - m ∨ t ≤ j') → σ'.2 83 j' = τ.2 83 j') ∧ ∀ i, i < k → σ'.2 83 (t - m + i) = cV (w i)) m (fun k s hk h => by
    obtain ⟨σ', rfl, h1, h2, h3, h4⟩ := h
    show ∃ s1, p_cMac_callHeld_96_s x1 x4 x5 (nI (t - m)) (nI j) (nI p) (nI k) σ' = _ ∧ _
    unfold p_cMac_callHeld_96_s
    rw [jI_at_in hp (by omega), jI_at_in hp (by omega), h1, h105, h103, if_neg (nI_ge hk (by omega)), nI_add, nI_add, jL_at_in (show f + k < 6000 by omega) (by omega), h2 99 (by decide), h99 k hk]
    refine ⟨_, rfl, jL_put 8 σ' 83 (nI (t - m + k)) (cV (w k)), by rw [← nI_succ], h1, fun r hr => ?_, fun j' hj' => ?_, fun i hi => ?_⟩
    · rw [s_q_ne hr]; exact h2 r hr
    · rw [s_q_eq, jL_up_in (by omega) (by omega), v_ne (by omega)]; exact h3 j' hj'
    · rw [s_q_eq, jL_up_in (by omega) (by omega)]
      by_cases z : i = k
      · rw [z, v_eq rfl]
      · rw [v_ne (by omega)]; exact h4 i (by omega)) (s := (x1, x4, x5, nI (t - m), nI j, nI p, (0 : Int32), τ)) ⟨τ, rfl, rfl, fun _ _ => rfl, fun _ _ => rfl, fun i hi => by omega⟩ (X := fun s => some (.inl (x1, τ.2 101 p, x4, x5, nI (t - m), nI (j + 1), s.2.2.2.2.2.2.2))) (fun s hs => by
    obtain ⟨σ', rfl, h1, h2, h3, h4⟩ := hs
    show p_cMac_callHeld_96_s x1 x4 x5 (nI (t - m)) (nI j) (nI p) (nI m) σ' = _
    unfold p_cMac_callHeld_96_s
    rw [jI_at_in hp (by omega), h1, h105, if_pos (nI_le (Nat.le_refl _) (by omega)), jL_at_in hp (by omega), h2 101 (by decide), ← nI_succ]) (n := 100000000) (by omega)
  exact ⟨σ', e, h1, h2, h3, h4⟩
theorem c_ch {F : Nat} {pN bN : Nat → Nat} {ty : Nat → Nat → Nat} {W : Nat → Nat} {H : jHp} {g : Nat} {x1 x4 x5 : Int32} (hG : HIg F pN bN ty W H (fun x => x < jAn H)) : ∀ n t v j (τ : jx_S), t ≤ n → j + t ≤ 8 → fnV H v g t → (∀ p, p < jGn H → τ.2 101 p = cV (jGo H p) ∧ τ.1 105 p = nI (jGs H p) ∧ τ.1 103 p = nI (jGf H p)) → (∀ a, a < jAn H → τ.2 99 a = cV (jAv H a)) → ∃ k τ', k ≤ t ∧ (∀ N, jx_loop (N + k + 1) (fun s : Int32 × Int64 × Int32 × Int32 × Int32 × Int32 × jx_S => p_cMac_callHeld_54_s s.1 s.2.1 s.2.2.1 s.2.2.2.1 s.2.2.2.2.1 s.2.2.2.2.2.1 s.2.2.2.2.2.2) (x1, cV v, x4, x5, nI t, nI j, τ) = p_cMac_callHeld_175 x1 (cV (4, nI g)) x4 x5 τ') ∧ τ'.1 = τ.1 ∧ (∀ r, r ≠ 83 → τ'.2 r = τ.2 r) ∧ (∀ j', t ≤ j' → τ'.2 83 j' = τ.2 83 j') ∧ ∀ s, s < t → τ'.2 83 s = cV (gvf H n v t s) := by
  have hout : ∀ v j t (τ : jx_S), v = (4, nI g) → t = 0 → ∀ N, jx_loop (N + 0 + 1) (fun s : Int32 × Int64 × Int32 × Int32 × Int32 × Int32 × jx_S => p_cMac_callHeld_54_s s.1 s.2.1 s.2.2.1 s.2.2.2.1 s.2.2.2.2.1 s.2.2.2.2.2.1 s.2.2.2.2.2.2) (x1, cV v, x4, x5, nI t, nI j, τ) = p_cMac_callHeld_175 x1 (cV (4, nI g)) x4 x5 τ := fun v j t τ h1 h2 N => by
    refine jx_loop_out (X := p_cMac_callHeld_175 x1 (cV (4, nI g)) x4 x5 τ) ?_ N
    show p_cMac_callHeld_54_s x1 (cV v) x4 x5 (nI t) (nI j) τ = _
    unfold p_cMac_callHeld_54_s
    rw [h1, c_tag (by omega), if_pos (show ¬ nI (4 + 1) = (6 : Int32) by decide)]
    split <;> rfl
  intro n
  induction n with
  | zero =>
    intro t v j τ ht hj h _ _
    rcases fnV_step hG h with ⟨h1, h2⟩ | ⟨p, h1, h2, h3, h4, ⟨h5, h6, h7⟩, h8⟩
    · exact ⟨0, τ, Nat.zero_le _, hout v j t τ h1 h2, rfl, fun _ _ => rfl, fun _ _ => rfl, fun s hs => by omega⟩
    · omega
  | succ n ih =>
    intro t v j τ ht hj h hr hg
    rcases fnV_step hG h with ⟨h1, h2⟩ | ⟨p, h1, h2, h3, h4, ⟨h5, h6, h7, h7a⟩, h8, h9, h10⟩
    · exact ⟨0, τ, Nat.zero_le _, hout v j t τ h1 h2, rfl, fun _ _ => rfl, fun _ _ => rfl, fun s hs => by omega⟩
    · obtain ⟨r1, r2, r3⟩ := hr p h1
      obtain ⟨σ1, x1', x2, x3, x4', x5'⟩ := c_ch1 (τ := τ) (x1 := x1) (x4 := x4) (x5 := x5) (t := t) (p := p) (m := jGs H p) (f := jGf H p) (j := j) (w := fun i => jAv H (jGf H p + i)) h2 h6 (by omega) r2 r3 (by omega) (fun i hi => hg _ (by omega))
      obtain ⟨k, σ', k1, k2, k3, k4, k5, k6⟩ := ih (t - jGs H p) (jGo H p) (j + 1) σ1 (by omega) (by omega) h10 (fun q hq => by rw [x2, x3 101 (by decide)]; exact hr q hq) (fun a ha => by rw [x3 99 (by decide)]; exact hg a ha)
      refine ⟨k + 1, σ', by omega, fun N => ?_, k3.trans x2, fun r hr' => (k4 r hr').trans (x3 r hr'), fun j' hj' => ?_, fun s hs => ?_⟩
      · rw [show N + (k + 1) + 1 = (N + k + 1) + 1 by omega]
        rw [jx_loop_inl (s1 := (x1, cV (jGo H p), x4, x5, nI (t - jGs H p), nI (j + 1), σ1))]
        · exact k2 N
        · show p_cMac_callHeld_54_s x1 (cV v) x4 x5 (nI t) (nI j) τ = _
          unfold p_cMac_callHeld_54_s
          rw [if_neg (show ¬ (8 : Int32) ≤ nI j from (nI_ge (by omega) (by omega) : ¬ nI 8 ≤ nI j)), h3, c_tag (by omega), if_neg (show ¬ ¬ nI (5 + 1) = (6 : Int32) from fun q => q rfl), c_num, show ((5, nI p) : aV).2 = nI p from rfl, jI_at_in h2 (by omega), r2, nI_sub h6, x1', r1]
      · rw [k5 j' (by omega), x4' j' (by omega)]
      · unfold gvf
        rw [h4]
        by_cases z : t - jGs H p ≤ s
        · rw [if_pos z, k5 s (by omega)]
          have := x5' (s - (t - jGs H p)) (by omega)
          rw [show t - jGs H p + (s - (t - jGs H p)) = s by omega] at this
          exact this
        · rw [if_neg z]
          exact k6 s (by omega)
/-- the class: a frame begins -/
theorem c_enter {τ : jx_S} {g p l n b : Nat} {v : Nat → aV} (h14 : τ.1 9 14 = nI b) (h47 : τ.1 47 g = nI l) (h43 : τ.1 43 g = nI p) (h51 : τ.1 51 g = nI n) (hg : g < 40) (hp : p ≤ 8) (hpl : p ≤ l) (hl : l ≤ 30) (hb : b ≤ 30000) (h83 : ∀ s, s < p → τ.2 83 s = cV (v s)) :
  (b + l ≤ 30000 → ∃ τ', p_cMac_enter (nI g) τ = p_cMac_begin (nI n) (nI b) τ' ∧ τ'.1 = (jI_put 10 (jx_i τ 9 14 (nI (b + l))) 71 (8 : Int32) (jI_at 10 (τ.1 71) (8 : Int32) + 1)).1 ∧ (∀ r, r ≠ 97 → τ'.2 r = τ.2 r) ∧ (∀ j, j < b → τ'.2 97 j = τ.2 97 j) ∧ ∀ s, s < p → τ'.2 97 (b + s) = cV (v s)) ∧ (¬ b + l ≤ 30000 → p_cMac_enter (nI g) τ = some (jx_i τ 8 14 5)) := by
  have e47 : jI_at 40 (τ.1 47) (nI g) = nI l := (jI_at_in hg (by omega)).trans h47
  constructor
  · intro hroom
    unfold p_cMac_enter p_cMac_enter_74
    rw [e47, h14, nI_add, if_pos (show nI (b + l) ≤ (30000 : Int32) from (nI_le hroom (by omega) : nI (b + l) ≤ nI 30000))]
    obtain ⟨s1, ⟨σ', rfl, h1, h2, h3, h4⟩, e⟩ := loop_invx (f := fun s : Int32 × Int32 × Int32 × jx_S => p_cMac_enter_74_s s.1 s.2.1 s.2.2.1 s.2.2.2) (fun k s => ∃ σ', s = (nI g, nI b, nI k, σ') ∧ σ'.1 = (jI_put 10 (jx_i τ 9 14 (nI (b + l))) 71 (8 : Int32) (jI_at 10 (τ.1 71) (8 : Int32) + 1)).1 ∧ (∀ r, r ≠ 97 → σ'.2 r = τ.2 r) ∧ (∀ j, j < b → σ'.2 97 j = τ.2 97 j) ∧ ∀ s, s < k → σ'.2 97 (b + s) = cV (v s)) p (fun k s hk h => by
      obtain ⟨σ', rfl, h1, h2, h3, h4⟩ := h
      show ∃ s1, p_cMac_enter_74_s (nI g) (nI b) (nI k) σ' = _ ∧ _
      unfold p_cMac_enter_74_s
      rw [jI_at_in hg (by omega), h1, s_p_ne (by decide), s_i_ne (by decide), h43, if_neg (nI_ge hk (by omega)), nI_add, jL_at_in (show k < 8 by omega) (by omega), h2 83 (by decide), h83 k hk]
      refine ⟨_, rfl, jL_put 30000 σ' 97 (nI (b + k)) (cV (v k)), by rw [← nI_succ], h1, fun r hr => ?_, fun j' hj' => ?_, fun i hi => ?_⟩
      · rw [s_q_ne hr]; exact h2 r hr
      · rw [s_q_eq, jL_up_in (by omega) (by omega), v_ne (by omega)]; exact h3 j' hj'
      · rw [s_q_eq, jL_up_in (by omega) (by omega)]
        by_cases z : i = k
        · rw [z, v_eq rfl]
        · rw [v_ne (by omega)]; exact h4 i (by omega)) (s := (nI g, nI b, (0 : Int32), jI_put 10 (jx_i τ 9 14 (nI (b + l))) 71 (8 : Int32) (jI_at 10 (τ.1 71) (8 : Int32) + 1))) ⟨_, rfl, rfl, fun _ _ => rfl, fun _ _ => rfl, fun i hi => by omega⟩ (X := fun s => p_cMac_begin (nI n) (nI b) s.2.2.2) (fun s hs => by
      obtain ⟨σ', rfl, h1, h2, h3, h4⟩ := hs
      show p_cMac_enter_74_s (nI g) (nI b) (nI p) σ' = _
      unfold p_cMac_enter_74_s
      rw [jI_at_in hg (by omega), jI_at_in hg (by omega), h1, s_p_ne (show (43 : Nat) ≠ 71 by decide), s_i_ne (show (43 : Nat) ≠ 9 by decide), h43, if_pos (nI_le (Nat.le_refl _) (by omega)), s_p_ne (show (51 : Nat) ≠ 71 by decide), s_i_ne (show (51 : Nat) ≠ 9 by decide), h51]
      show (Option.map Sum.inr ((p_cMac_begin (nI n) (nI b) σ').bind fun q => some q)) = _
      cases p_cMac_begin (nI n) (nI b) σ' <;> rfl) (n := 100000000) (by omega)
    exact ⟨σ', e, h1, h2, h3, h4⟩
  · intro hroom
    unfold p_cMac_enter
    rw [e47, h14, nI_add, if_neg (show ¬ nI (b + l) ≤ (30000 : Int32) from (nI_ge (by omega) (by omega) : ¬ nI (b + l) ≤ nI 30000))]
