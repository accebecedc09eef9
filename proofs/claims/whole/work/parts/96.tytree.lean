/-! TYPING, 13: a node with all below it, by its parts. -/
def TySub (E : jEn) (G : jGh) (F : Nat) (pN bN lN' tk' : Nat → Nat) (ty : Nat → Nat → Nat) (f x : Nat) : Prop :=
  ∀ (lo w q t d u N M : Nat) (τ ρ : jx_S), TyP E F pN bN lN' tk' ty f τ ρ → x < 1200 → ρ.1 121 x = nI lo → lo ≤ x → (∀ k, lo ≤ k → k ≤ x → NodeS E G τ ρ k ∧ gD G k ≤ lN' f) → w < 14 → τ.1 37 (x + 1) = nI w → ρ.1 106 55 = nI (q + 1) → q + (x - lo + 1) ≤ 1201 → ρ.1 144 q = nI x → ρ.1 145 q = nI w → Up τ t d (x + 1) → d + (x + 1) ≤ 1201 → t ≤ 1200 → u + (x - lo + 1) ≤ 1200 →
  (∃ τ' ρ', jx_loop (N + 1 + (x - lo + 1)) tyC (nI f, nI (x + 1), nI u, τ) = some τ' ∧ jx_loop (M + 1 + (x - lo + 1)) tyR (nI f, ρ) = some (.inr (0, ρ')) ∧ TyX τ ρ τ' ρ') ∨
  (∃ τ' ρ', jx_loop (N + 1 + (x - lo + 1)) tyC (nI f, nI (x + 1), nI u, τ) = jx_loop (N + 1) tyC (nI f, nI t, nI (u + (x - lo + 1)), τ') ∧ jx_loop (M + 1 + (x - lo + 1)) tyR (nI f, ρ) = jx_loop (M + 1) tyR (nI f, ρ') ∧ TF lo (x + 1) q τ ρ τ' ρ' ∧ τ'.1 37 (x + 1) = nI w ∧ ρ'.1 106 55 = nI q ∧ ∀ k, lo ≤ k → k ≤ x → TyD E G F pN bN ty f τ' ρ' k)
theorem ty_parts {E : jEn} {G : jGh} {F f : Nat} {pN bN lN' tk' : Nat → Nat} {ty : Nat → Nat → Nat} {τ ρ : jx_S} {x q u o m lo s t d N M : Nat} {cs wt : Nat → Nat} (ih : ∀ y, y < x → TySub E G F pN bN lN' tk' ty f y) (hP : TyP E F pN bN lN' tk' ty f τ ρ) (hx : x < 1200) (hN : ∀ i, i < m → NdC E G τ ρ x o m lo s cs i) (hlo : lo ≤ x) (hcm : 0 < m → cs (m - 1) + 1 = x) (hK : ∀ k, lo ≤ k → k ≤ x → NodeS E G τ ρ k ∧ gD G k ≤ lN' f) (hq : q + (x - lo + 1) ≤ 1201) (hU : Up τ t d (x + 1)) (hd : d + (x + 1) ≤ 1201) (ht : t ≤ 1200) (hu : u + (x - lo + 1) ≤ 1200) (h37 : ∀ i, i < m → wt i < 14 ∧ τ.1 37 (cs i + 1) = nI (wt i)) (h55 : ρ.1 106 55 = nI (q + m)) (hst : ∀ i, i < m → ρ.1 144 (q + (m - 1 - i)) = nI (cs i) ∧ ρ.1 145 (q + (m - 1 - i)) = nI (wt i)) :
    ∀ j, j ≤ m →
    (∃ τ' ρ', jx_loop (N + 1 + (x - lo)) tyC (nI f, nI (if 0 < m then cs 0 + 1 else t), nI (u + 1), τ) = some τ' ∧ jx_loop (M + 1 + (x - lo)) tyR (nI f, ρ) = some (.inr (0, ρ')) ∧ TyX τ ρ τ' ρ') ∨
    (∃ τ' ρ' l, l = (if j = 0 then lo else cs (j - 1) + 1) ∧ jx_loop (N + 1 + (x - lo)) tyC (nI f, nI (if 0 < m then cs 0 + 1 else t), nI (u + 1), τ) = jx_loop (N + 1 + (x - l)) tyC (nI f, nI (if j < m then cs j + 1 else t), nI (u + 1 + (l - lo)), τ') ∧ jx_loop (M + 1 + (x - lo)) tyR (nI f, ρ) = jx_loop (M + 1 + (x - l)) tyR (nI f, ρ') ∧ TF lo l (q + (m - j)) τ ρ τ' ρ' ∧ (∀ i, i < m → τ'.1 37 (cs i + 1) = nI (wt i)) ∧ ρ'.1 106 55 = nI (q + (m - j)) ∧ ∀ k, lo ≤ k → k < l → TyD E G F pN bN ty f τ' ρ' k) := by
  obtain ⟨hcs, hlt, hmx⟩ := nd_children hx hN
  have hgap : ∀ e i, i + e < m → cs i + e ≤ cs (i + e) := by
    intro e
    induction e with
    | zero => intro i _; exact Nat.le_refl _
    | succ e ihe =>
      intro i hi
      have a1 := ihe i (by omega)
      have a2 := hlt (i + e) (i + (e + 1)) (by omega) hi
      omega
  intro j
  induction j with
  | zero =>
    intro _
    refine Or.inr ⟨τ, ρ, lo, by rw [if_pos rfl], ?_, rfl, TF_refl, fun i hi => (h37 i hi).2, h55, fun k h1 h2 => absurd h1 (by omega)⟩
    rw [Nat.sub_self]
  | succ j ihj =>
    intro hj
    rcases ihj (by omega) with h | ⟨τ', ρ', l, e0, e1, e2, e3, e4, e5, e6⟩
    · exact Or.inl h
    have hcj := hN j (by omega)
    obtain ⟨n1, n2, n3, n4, n5, n6, _⟩ := hcj
    have hl : lo ≤ l ∧ l ≤ cs j := by
      rw [e0]
      by_cases hj0 : j = 0
      · rw [if_pos hj0]; omega
      · rw [if_neg hj0]
        have := n4 (by omega)
        have := (hN (j - 1) (by omega)).2.1
        omega
    have g1 := hgap (m - 1 - j) j (by omega)
    rw [show j + (m - 1 - j) = m - 1 by omega] at g1
    have g2 := hcm (by omega)
    have hP' := TyP_keep hP e3
    have hgo : Up τ' (if j + 1 < m then cs (j + 1) + 1 else t) (if j + 1 < m then 0 else d + 1) (cs j + 1) := by
      by_cases hjm : j + 1 < m
      · rw [if_pos hjm, if_pos hjm]
        rw [if_pos hjm] at n6
        exact ⟨by rw [e3.1 29 (by decide) (by decide)]; exact n6, Or.inl (by omega)⟩
      · rw [if_neg hjm, if_neg hjm]
        rw [if_neg hjm] at n6
        exact ⟨by omega, by rw [e3.1 29 (by decide) (by decide)]; exact n6, x + 1, by rw [e3.1 31 (by decide) (by decide)]; exact n5, by omega, Up_keep (e3.1 29 (by decide) (by decide)) (e3.1 31 (by decide) (by decide)) d (x + 1) hU⟩
    have hd' : (if j + 1 < m then 0 else d + 1) + (cs j + 1) ≤ 1201 := by split <;> omega
    have ht' : (if j + 1 < m then cs (j + 1) + 1 else t) ≤ 1200 := by
      split
      · rename_i z; have := (hcs (j + 1) z).1; omega
      · exact ht
    have hst' := hst j (by omega)
    have e7 := ih (cs j) n1 l (wt j) (q + (m - 1 - j)) (if j + 1 < m then cs (j + 1) + 1 else t) (if j + 1 < m then 0 else d + 1) (u + 1 + (l - lo)) (N + (x - (cs j + 1))) (M + (x - (cs j + 1))) τ' ρ' hP' (by omega) (by rw [e3.2.2.2.2.2.2.2.1 121 (by decide), e0]; exact n3) hl.2 (fun k k1 k2 => ⟨TF_node e3 (hK k (by omega) (by omega)).1, (hK k (by omega) (by omega)).2⟩) (h37 j (by omega)).1 (e4 j (by omega)) (by rw [e5]; congr 1; omega) (by omega) (by rw [(e3.2.2.2.2.2.1 (q + (m - 1 - j)) (by omega)).1]; exact hst'.1) (by rw [(e3.2.2.2.2.2.1 (q + (m - 1 - j)) (by omega)).2]; exact hst'.2) hgo hd' ht' (by omega)
    have f1 : N + (x - (cs j + 1)) + 1 + (cs j - l + 1) = N + 1 + (x - l) := by omega
    have f2 : M + (x - (cs j + 1)) + 1 + (cs j - l + 1) = M + 1 + (x - l) := by omega
    rw [f1, f2] at e7
    rw [if_pos (show j < m by omega)] at e1
    rcases e7 with ⟨τ2, ρ2, y1, y2, y3⟩ | ⟨τ2, ρ2, y1, y2, y3, y4, y5, y6⟩
    · exact Or.inl ⟨τ2, ρ2, e1.trans y1, e2.trans y2, TyX_keep e3 y3⟩
    · refine Or.inr ⟨τ2, ρ2, cs j + 1, by rw [if_neg (by omega), Nat.add_sub_cancel], ?_, ?_, TF_trans e3 y3 (Nat.le_refl _) hl.1 (by omega) (Nat.le_refl _) (by omega) (by omega), fun i hi => ?_, by rw [y5]; congr 1; omega, fun k k1 k2 => ?_⟩
      · rw [e1, y1, show N + (x - (cs j + 1)) + 1 = N + 1 + (x - (cs j + 1)) by omega, show u + 1 + (l - lo) + (cs j - l + 1) = u + 1 + (cs j + 1 - lo) by omega]
      · rw [e2, y2, show M + (x - (cs j + 1)) + 1 = M + 1 + (x - (cs j + 1)) by omega]
      · by_cases hij : i = j
        · subst hij; exact y4
        · have : cs i < l ∨ cs j + 1 ≤ cs i := by
            rcases Nat.lt_or_ge i j with z | z
            · left
              rw [e0, if_neg (by omega)]
              by_cases z2 : i = j - 1
              · rw [z2]; omega
              · have := hlt i (j - 1) (by omega) (by omega); omega
            · right
              have := hlt j i (by omega) hi; omega
          rw [(y3.2.2.1 (cs i) this).2]
          exact e4 i hi
      · rcases Nat.lt_or_ge k l with z | z
        · exact TyD_keep (e6 k k1 z) y3 z
        · exact y6 k z (by omega)
theorem ty_sub {E : jEn} (hE : EnvOK E) {G : jGh} {F f : Nat} {pN bN lN' tk' : Nat → Nat} {ty : Nat → Nat → Nat} (hF : F ≤ 40) (hf : f < F) : ∀ x, TySub E G F pN bN lN' tk' ty f x := by
  intro x
  induction x using Nat.strongRecOn with
  | ind x ih =>
    intro lo w q t d u N M τ ρ hP hx h121 hlo hK hw h37 h55 hq h144 h145 hU hd ht hu
    obtain ⟨⟨o, tk, m, lo', s, cs, hA, hN⟩, hgD⟩ := hK x hlo (Nat.le_refl _)
    obtain ⟨c1, c2, c3, c4, c5, c6, c7, c8, c9, c10, c11, c12, c13, c14, c15, c16, c17, c18, c19, c20, c21, c22, c23, c24⟩ := id hA
    have elo : lo' = lo := (nI_eq (by omega) (by omega)).mp (c8.symm.trans h121)
    subst elo
    have hs5 : o = 5 → s < lN' f := fun ho => by
      obtain ⟨_, _, z⟩ := c19 ho
      have hm : 0 < m := by unfold arOK at c6; omega
      have h1 := hN 0 hm
      obtain ⟨n1, n2, _, _, _, _, _, _, _, n10⟩ := h1
      rw [if_pos rfl, if_pos ⟨ho, rfl⟩] at n10
      obtain ⟨⟨o1, tk1, m1, lo1, s1, cs1, hA1, _⟩, hg1⟩ := hK (cs 0) n2 (by omega)
      have := hA1.2.2.2.2.2.2.2.2.2.2.2.2.2.2.2.2.2.2.2.2.2.1
      omega
    have hs1 : o = 1 → gV G x s → s < lN' f := fun _ hv => by have := c21 s hv; omega
    rcases ty_step hE hF hf hP hx hA hN hs1 hs5 hw h37 h55 (by omega) h144 h145 hU (by omega) ht (show u < 1200 by omega) with ⟨τ1, ρ1, nx, y1, y2, y3⟩ | ⟨τ1, ρ1, wt, g, y1, y2, y3, y4, y5, y6⟩
    · have hx0 : τ1.1 1 0 ≠ 0 := by
        obtain ⟨P, n, z1, z2, _⟩ := y3
        rw [z2]
        rcases z1 with z1 | z1 <;> (rw [z1]; decide)
      obtain ⟨z1, z2⟩ := ty_fault (N := N + (x - lo')) (M := M + 1 + (x - lo')) y1 y2 hx0
      refine Or.inl ⟨τ1, ρ1, ?_, ?_, y3⟩
      · rw [show N + 1 + (x - lo' + 1) = N + (x - lo') + 2 by omega]; exact z1
      · rw [show M + 1 + (x - lo' + 1) = M + 1 + (x - lo') + 1 by omega]; exact z2
    · have hin : ∀ i, i < m → lo' ≤ cs i ∧ cs i < x := fun i hi => ⟨(hN i hi).2.1, (hN i hi).1⟩
      have t0 : TF 0 0 q τ ρ τ (jx_i ρ 106 55 (nI q)) := TF_pop
      have e117 : (jx_i ρ 106 55 (nI q)).1 117 = ρ.1 117 := s_i_ne (by decide)
      have e112 : (jx_i ρ 106 55 (nI q)).1 112 = ρ.1 112 := s_i_ne (by decide)
      have t1 : TF lo' (x + 1) q τ (jx_i ρ 106 55 (nI q)) τ1 ρ1 := TSok_TF y3 hin hlo (by rw [e117]; exact y6) (by rw [e112]; exact c1)
      have t2 : TF lo' (x + 1) q τ ρ τ1 ρ1 := TF_trans (show TF lo' (x + 1) q τ ρ τ (jx_i ρ 106 55 (nI q)) from TF_pop) t1 (Nat.le_refl _) (Nat.le_refl _) (Nat.le_refl _) (Nat.le_refl _) (Nat.le_refl _) (Nat.le_refl _)
      have q1 := ty_parts (N := N) (M := M) ih (TyP_keep hP t2) hx (fun i hi => NdC_keep t2 (hN i hi)) hlo c11 (fun k k1 k2 => ⟨TF_node t2 (hK k k1 k2).1, (hK k k1 k2).2⟩) hq (Up_keep (t2.1 29 (by decide) (by decide)) (t2.1 31 (by decide) (by decide)) d (x + 1) hU) hd ht hu (fun i hi => ⟨y4 i hi, y3.2.2.2.2.2.1 i hi⟩) y3.2.2.2.2.2.2.2.1 y3.2.2.2.2.2.2.2.2.2.1 m (Nat.le_refl _)
      rw [show N + 1 + (x - lo' + 1) = N + 1 + (x - lo') + 1 by omega, show M + 1 + (x - lo' + 1) = M + 1 + (x - lo') + 1 by omega, jx_loop_inl y1, jx_loop_inl y2]
      rcases q1 with ⟨τ2, ρ2, z1, z2, z3⟩ | ⟨τ2, ρ2, l, z0, z1, z2, z3, z4, z5, z6⟩
      · exact Or.inl ⟨τ2, ρ2, z1, z2, TyX_keep t2 z3⟩
      · have hl : l = x := by
          rw [z0]
          by_cases hm : m = 0
          · rw [if_pos hm]; exact c10 hm
          · rw [if_neg hm]; exact c11 (by omega)
        subst hl
        clear z0
        rw [if_neg (Nat.lt_irrefl _), Nat.sub_self] at z1
        rw [Nat.sub_self] at z2 z5
        have t3 : TF lo' (l + 1) q τ ρ τ2 ρ2 := TF_trans t2 z3 (Nat.le_refl _) (Nat.le_refl _) (Nat.le_refl _) (by omega) (Nat.le_refl _) (by omega)
        have k37 : τ2.1 37 (l + 1) = nI w := by
          rw [(z3.2.2.1 l (Or.inr (Nat.le_refl _))).2, y3.2.2.2.2.2.2.1 (l + 1) (by omega) (fun i hi => by have := hin i hi; omega)]
          exact h37
        refine Or.inr ⟨τ2, ρ2, ?_, z2, t3, k37, z5, fun k k1 k2 => ?_⟩
        · rw [z1, show u + 1 + (l - lo') = u + (l - lo' + 1) by omega]
        · by_cases hkl : k = l
          · subst hkl
            refine ⟨o, tk, m, lo', s, cs, w, wt, NdS_keep t3 hA, fun i hi => NdC_keep t3 (hN i hi), hw, k37, ?_, ?_, fun i hi => ⟨y4 i hi, z4 i hi⟩⟩
            · rw [(z3.2.2.2.2.2.2.1 k (Or.inr (Nat.le_refl _))).2, y3.2.2.2.2.2.2.2.2.2.2.2.1, u_eq rfl]
            · rw [(z3.2.2.1 k (Or.inr (Nat.le_refl _))).1, (z3.2.2.2.2.2.2.1 k (Or.inr (Nat.le_refl _))).1, t3.2.2.2.2.2.2.2.1 117 (by decide)]
              exact y5
          · exact z6 k k1 (by omega)
