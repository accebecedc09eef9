/-! RUNS, 45: go. -/
theorem tks_fr : ∀ {j : Nat} {τ τ' : jx_S}, tks j τ τ' → jFr ms_cMac_workOn fs_cMac_workOn τ τ' := by
  intro j
  induction j with
  | zero =>
    intro τ τ' h
    have : τ' = τ := h
    subst this
    exact jFr.rfl
  | succ j ih =>
    intro τ τ' h
    obtain ⟨τ1, _, _, h3, h4⟩ := h
    have h1 : jFr ms_cMac_workOn fs_cMac_workOn τ τ1 := f_cMac_workOn τ _ _ τ jFr.rfl τ1 h3
    have h2 := ih h4
    intro k i a b
    have u := h1 k i a b
    have v := h2 k i a b
    exact ⟨v.1.trans u.1, v.2.trans u.2⟩
theorem b204 {X : Option jx_S} {ρ' : jx_S} (h : (X.bind fun q => p_r_go_204 q) = some (.inl ρ')) : X = some ρ' := by
  cases X with
  | none => cases h
  | some x =>
    have h' : some (Sum.inl x) = some (Sum.inl ρ') := h
    have := Sum.inl.inj (Option.some.inj h')
    rw [this]
theorem r_72c {σ t : jx_S} {x : Int32} (h : p_r_workCons_72 x σ = some t) : t.1 106 70 = σ.1 106 70 := by
  unfold p_r_workCons_72 at h
  split at h
  · cases h; rfl
  · cases hx : p_r_finish (v_r_tagged (2 : Int64) x σ) σ with
    | none => rw [hx] at h; cases h
    | some q =>
      rw [hx, Option.bind_some] at h
      cases h
      exact (f_r_finish σ _ σ jFr.rfl _ hx 106 70 (by decide) (by decide)).1
theorem r_consc {σ t : jx_S} {x1 x2 : Int32} (h : p_r_workCons x1 x2 σ = some t) : t.1 106 70 = σ.1 106 70 ∨ t.1 106 70 = σ.1 106 70 + 1 := by
  unfold p_r_workCons at h
  split at h
  · split at h
    · cases h
    · cases hx : p_r_putOff ((σ.1 114) (x1).toNatClampNeg) x2 (jx_i σ 106 70 ((σ.1 106 70) + (1 : Int32))) with
      | none => rw [hx] at h; cases h
      | some q1 =>
        rw [hx, Option.bind_some] at h
        have e1 : q1.2.1 106 70 = σ.1 106 70 + 1 := ((f_r_putOff _ _ _ _ jFr.rfl q1 hx 106 70 (by decide) (by decide)).1).trans (by rw [s_i_eq, u_eq rfl])
        split at h
        · cases h
        · split at h
          · right
            rw [r_72c h]; exact e1
          · cases hy : p_r_putOff ((q1.2.1 115) (x1).toNatClampNeg) x2 (jx_l q1.2 155 ((σ.1 106 70)).toNatClampNeg q1.1) with
            | none => rw [hy] at h; cases h
            | some q3 =>
              rw [hy, Option.bind_some] at h
              have e2 : q3.2.1 106 70 = q1.2.1 106 70 := (f_r_putOff _ _ _ _ jFr.rfl q3 hy 106 70 (by decide) (by decide)).1
              right
              rw [r_72c h]
              exact e2.trans e1
  · cases h
    left
    rw [s_i_eq, u_ne (by decide)]
theorem r_cells {E : jEn} {G : jGh} {F : Nat} {nS pN bN lN' : Nat → Nat} {ty : Nat → Nat → Nat} {W : Nat → Nat} {D : Nat → jDs} {tk LO : Nat → Nat} {sl sp : Nat → Nat → Nat} {H : jHp} {S : jSt} {pd : Nat} {an : aV} {bt fc st lm go : Nat} {τ ρ ρ' : jx_S} (h : RUN E G F nS pN bN lN' ty W D tk LO sl sp H S pd an bt fc st lm go τ ρ) (hd : 0 < jSd S) (hg : p_r_go_0_s ρ = some (.inl ρ')) : ρ'.1 106 70 = ρ.1 106 70 ∨ ρ'.1 106 70 = ρ.1 106 70 + 1 := by
  obtain ⟨e1, e2, hse, hF, hN, ⟨e3, e4, e5⟩, s1, s2, s3, k2, hsg, hk12⟩ := top_of h hd
  rw [r_goh s2 hd s3 k2 e3 hk12 e4 hN.1.2.2.2.2.2.1] at hg
  generalize (if 28 ≤ dK (D (jSk S (jSd S - 1))) then 1 else dK (D (jSk S (jSd S - 1)))) = o at hg
  split at hg
  · exact Or.inl (f_r_workName ρ _ _ _ ρ jFr.rfl ρ' (b204 hg) 106 70 (by decide) (by decide)).1
  · split at hg
    · split at hg
      · cases hg
      · exact Or.inl (f_r_finish ρ _ ρ jFr.rfl ρ' (b204 hg) 106 70 (by decide) (by decide)).1
    · split at hg
      · exact Or.inl (f_r_workLet ρ _ _ _ ρ jFr.rfl ρ' (b204 hg) 106 70 (by decide) (by decide)).1
      · split at hg
        · unfold p_r_go_168 at hg
          exact Or.inl (f_r_workChoice ρ _ _ _ ρ jFr.rfl ρ' (b204 hg) 106 70 (by decide) (by decide)).1
        · split at hg
          · unfold p_r_go_168 at hg
            exact Or.inl (f_r_workChoice ρ _ _ _ ρ jFr.rfl ρ' (b204 hg) 106 70 (by decide) (by decide)).1
          · split at hg
            · exact Or.inl (f_r_finish ρ _ ρ jFr.rfl ρ' (b204 hg) 106 70 (by decide) (by decide)).1
            · split at hg
              · exact r_consc (b204 hg)
              · split at hg
                · left
                  have h' : some (Sum.inl (jx_i ρ 106 87 (2 : Int32))) = some (Sum.inl (β := jx_S) ρ') := hg
                  have := Sum.inl.inj (Option.some.inj h')
                  rw [← this, s_i_eq, u_ne (by decide)]
                · unfold p_r_go_197 at hg
                  exact Or.inl (f_r_workBinary ρ _ _ _ ρ jFr.rfl ρ' (b204 hg) 106 70 (by decide) (by decide)).1
/-- the end is seen -/
theorem r_end {H : jHp} {go : Nat} {τ ρ : jx_S} (h : EN H go τ ρ) : p_r_go_0_s ρ = some (.inr ρ) := by
  obtain ⟨⟨en, h1, h2, h3, h4⟩, _⟩ := h
  unfold p_r_go_0_s
  by_cases z : ρ.1 106 82 ≤ 0
  · rw [if_pos z]; rfl
  · rw [if_neg z, if_pos (by rw [h4]; exact nI_ne0 (by omega) (by omega))]; rfl
theorem go_all {E : jEn} {G : jGh} {F : Nat} {nS pN bN lN' : Nat → Nat} {ty : Nat → Nat → Nat} {W : Nat → Nat} {D : Nat → jDs} {tk LO : Nat → Nat} {sl sp : Nat → Nat → Nat} {bt fc lm go : Nat} : ∀ n H S pd an st τ ρ, mea S st lm ≤ n → RUN E G F nS pN bN lN' ty W D tk LO sl sp H S pd an bt fc st lm go τ ρ → ∃ j k τ' ρ', tks j τ τ' ∧ k ≤ j ∧ j ≤ mea S st lm + 10 ∧ (∀ N, jx_loop (N + k + 1) p_r_go_0_s ρ = some ρ') ∧ ((∃ H', EN H' go τ' ρ') ∨ ∃ H' S' pd' an' st', RUN E G F nS pN bN lN' ty W D tk LO sl sp H' S' pd' an' bt fc st' lm go τ' ρ' ∧ jSd S' = 0 ∧ mea S' st' lm + j ≤ mea S st lm ∧ jCn H ≤ jCn H') := by
  intro n
  induction n using Nat.strongRecOn with
  | ind n ih =>
    intro H S pd an st τ ρ hn h
    by_cases hd : jSd S = 0
    · refine ⟨0, 0, τ, ρ, rfl, Nat.le_refl _, by omega, fun N => jx_loop_inr ?_, Or.inr ⟨H, S, pd, an, st, h, hd, by omega, Nat.le_refl _⟩⟩
      have h82 := h.1.2.2.1.1.2.1
      unfold p_r_go_0_s
      rw [h82, hd, if_pos (show nI 0 ≤ (0 : Int32) by decide)]; rfl
    · obtain ⟨j, τ1, ρ1, t0, t1, t2, t3, t4⟩ := tick h (by omega)
      rcases t4 with ⟨H', t4⟩ | ⟨H1, S1, pd1, an1, st1, t4, t5⟩
      · refine ⟨j, 1, τ1, ρ1, t2, t0, by omega, fun N => ?_, Or.inl ⟨H', t4⟩⟩
        rw [show N + 1 + 1 = (N + 1) + 1 by omega, jx_loop_inl t3]
        exact jx_loop_inr (r_end t4)
      · obtain ⟨j2, k2, τ2, ρ2, y1, y2, y3, y4, y5⟩ := ih (mea S1 st1 lm) (by omega) H1 S1 pd1 an1 st1 τ1 ρ1 (Nat.le_refl _) t4
        have hc : jCn H ≤ jCn H1 := by
          have e1 := h.1.2.1.2.1.2.1
          have e2 := t4.1.2.1.2.1.2.1
          have b1 := h.1.2.2.2.2.1.2.2.2.1.1
          have b2 := t4.1.2.2.2.2.1.2.2.2.1.1
          rcases r_cells h (by omega) t3 with q | q
          · rw [e1, e2] at q
            have := (nI_eq (by omega) (by omega)).1 q
            omega
          · rw [e1, e2, show nI (jCn H) + (1 : Int32) = nI (jCn H + 1) from (nI_succ _).symm] at q
            have := (nI_eq (by omega) (by omega)).1 q
            omega
        refine ⟨j + j2, k2 + 1, τ2, ρ2, tks_add t2 y1, by omega, by omega, fun N => ?_, ?_⟩
        · rw [show N + (k2 + 1) + 1 = (N + k2 + 1) + 1 by omega, jx_loop_inl t3]
          exact y4 N
        · rcases y5 with y5 | ⟨H', S', pd', an', st', z1, z2, z3, z4⟩
          · exact Or.inl y5
          · exact Or.inr ⟨H', S', pd', an', st', z1, z2, by omega, by omega⟩
