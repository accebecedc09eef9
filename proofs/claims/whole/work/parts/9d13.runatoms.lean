/-! RUNS, 13: all atoms of a name, in both. -/
def ASuc (E : jEn) (G : jGh) (F : Nat) (nS pN bN lN' : Nat → Nat) (ty : Nat → Nat → Nat) (W : Nat → Nat) (D : Nat → jDs) (tk LO : Nat → Nat) (sl sp : Nat → Nat → Nat) (H : jHp) (φ : Nat) (gd : Nat → Prop) (q c i nA nG : Nat) (τ u : jx_S) (τ' : jx_S) : Prop := ∃ H', HX H H' ∧ HQ H H' ∧ OwK φ (LO c) c H H' ∧ CPF τ τ' ∧ ∃ ρ2 st, (∀ N x3, jx_loop (N + st) r12 (nI (jFb H φ), x3, u) = jx_loop N r12 (nI (jFb H φ), x3, ρ2)) ∧ PO E G F nS pN bN lN' ty W D tk LO sl sp H' φ (fun x => gd x ∨ (nA + i ≤ x ∧ x < nA + dM (D c)) ∨ (jAn H ≤ x ∧ x < jAn H')) q τ' ρ2 ∧ RPF u ρ2 ∧ (∀ x, x < nA → ρ2.2 160 x = u.2 160 x) ∧ (∀ j, j < q → ρ2.1 169 j = u.1 169 j ∧ ρ2.1 170 j = u.1 170 j) ∧ st ≤ c - (if i = 0 then LO c else dC (D c) (i - 1) + 1)
def AFul (LO : Nat → Nat) (D : Nat → jDs) (H : jHp) (φ c i : Nat) (τ u τ' : jx_S) : Prop := ∃ H', HQ H H' ∧ CPF τ τ' ∧ τ'.1 8 14 = 5 ∧ ∃ ρ2 st, (∀ N x3, jx_loop (N + st + 1) r12 (nI (jFb H φ), x3, u) = some (x3, ρ2)) ∧ ρ2.1 106 87 = 5 ∧ RPu H' 0 (0, 0) τ' ρ2 ∧ RPF u ρ2 ∧ st ≤ c - (if i = 0 then LO c else dC (D c) (i - 1) + 1)
theorem RPF_l {ρ : jx_S} {a : Nat} {v : Int64} : RPF ρ (jx_l ρ 160 a v) := ⟨fun _ _ => rfl, fun _ _ => rfl, fun r hr => by
  simp only [List.mem_cons, List.not_mem_nil, or_false, not_or] at hr
  rw [s_l_ne hr.2]⟩
theorem c127_step {rec : Int32 → Int32 → jx_S → Option (Int64 × jx_S)} {E : jEn} {τ ρ τ1 : jx_S} {c tk i m nA : Nat} {w x7 : Int32} {d : jDs} {v : Int64} (hA : AN E τ ρ c tk d) (hm : dM d = m) (hm8 : m ≤ 8) (hi : i < m) (he : τ.1 8 14 = 0) (hr : rec (nI (dC d i + 1)) (w + 1) τ = some (v, τ1)) : c127 rec (nI (c + 1), w, nI m, nI nA, x7, nI i, τ) = some (.inl (nI (c + 1), w, nI m, nI nA, x7, nI (i + 1), jL_put 6000 τ1 99 (nI (nA + i)) v)) := by
  show p_cMac_putOffFunction_127_s rec (nI (c + 1)) w (nI m) (nI nA) x7 (nI i) τ = _
  unfold p_cMac_putOffFunction_127_s
  rw [if_neg (nI_ge hi (by omega)), he, if_neg (fun z => z rfl), c_kid hA (by omega), Option.bind_some]
  show ((rec (nI (dC d i + 1)) (w + 1) τ).bind _) = _
  rw [hr, Option.bind_some, nI_add, ← nI_succ]
theorem c127_out {rec : Int32 → Int32 → jx_S → Option (Int64 × jx_S)} {τ : jx_S} {x1 w x6 : Int32} {m i nG : Nat} (hm : m ≤ 8) (hi : i ≤ 8) (h : m ≤ i ∨ τ.1 8 14 ≠ 0) (N : Nat) : jx_loop (N + 1) (c127 rec) (x1, w, nI m, x6, nI nG, nI i, τ) = some (cV (5, nI nG), τ) := by
  refine jx_loop_out (X := some (cV (5, nI nG), τ)) ?_ N
  show p_cMac_putOffFunction_127_s rec x1 w (nI m) x6 (nI nG) (nI i) τ = _
  unfold p_cMac_putOffFunction_127_s p_cMac_putOffFunction_178
  by_cases z : m ≤ i
  · rw [if_pos (nI_le z (by omega))]; rfl
  · rw [if_neg (nI_ge (by omega) (by omega)), if_pos (by rcases h with h | h; omega; exact h)]; rfl
theorem atoms2 {E : jEn} {G : jGh} {F : Nat} {nS pN bN lN' : Nat → Nat} {ty : Nat → Nat → Nat} {W : Nat → Nat} {D : Nat → jDs} {tk LO : Nat → Nat} {sl sp : Nat → Nat → Nat} {rec : Int32 → Int32 → jx_S → Option (Int64 × jx_S)} {w : Int32} {f c m φ d q nA nG g t : Nat} (hm : dM (D c) = m) (hm8 : m ≤ 8) (hq : q + m ≤ 3000)
    (hty : ∀ i, i < m → W (dC (D c) i) = ty g (t + i)) (hkid : ∀ i, i < m → LO c ≤ dC (D c) i ∧ LO (dC (D c) i) = (if i = 0 then LO c else dC (D c) (i - 1) + 1) ∧ LO (dC (D c) i) ≤ dC (D c) i ∧ dC (D c) i < c)
    (hN : ∀ τ ρ, RP E G F nS pN bN lN' ty W D tk LO sl sp τ ρ → RNd E G F nS pN bN lN' ty W D tk LO sl sp f τ ρ c) (b : Nat)
    (hat : ∀ i, i < m → ∀ H gd τ ρ, jFb H φ = b → PO E G F nS pN bN lN' ty W D tk LO sl sp H φ gd (q + (m - 1 - i)) τ ρ → PRe E G F nS pN bN lN' ty W D tk LO sl sp H φ d (dC (D c) i) → OUT E G F nS pN bN lN' ty W D tk LO sl sp H φ gd (q + (m - 1 - i)) (dC (D c) i) τ ρ (rec (nI (dC (D c) i + 1)) (w + 1) τ)) :
    ∀ j i H gd τ u, m - i = j → i ≤ m → jFb H φ = b → PO E G F nS pN bN lN' ty W D tk LO sl sp H φ gd (q + (m - i)) τ u → nG < jGn H → jGf H nG = nA → jGs H nG = m → jGg H nG = g → jGt H nG = t + m → nA + m ≤ jAn H → (∀ x, nA + i ≤ x → x < nA + m → ¬ gd x) → (∀ k, i ≤ k → k < m → u.1 169 (q + (m - 1 - k)) = nI (dC (D c) k) ∧ u.1 170 (q + (m - 1 - k)) = nI (nA + k)) → (∀ k, i ≤ k → k < m → PRe E G F nS pN bN lN' ty W D tk LO sl sp H φ d (dC (D c) k)) →
    (∃ τ', (∀ N, jx_loop (N + j + 1) (c127 rec) (nI (c + 1), w, nI m, nI nA, nI nG, nI i, τ) = some (cV (5, nI nG), τ')) ∧ ASuc E G F nS pN bN lN' ty W D tk LO sl sp H φ gd q c i nA nG τ u τ') ∨ (∃ v τ', (∀ N, jx_loop (N + j + 1) (c127 rec) (nI (c + 1), w, nI m, nI nA, nI nG, nI i, τ) = some (v, τ')) ∧ AFul LO D H φ c i τ u τ') := by
  intro j
  induction j with
  | zero =>
    intro i H gd τ u hj hi hb hP _ _ _ _ _ hA _ _ _
    have him : i = m := by omega
    subst him
    refine Or.inl ⟨τ, fun N => c127_out hm8 hm8 (Or.inl (Nat.le_refl _)) N, H, HX_refl, ⟨rfl, rfl, rfl, fun _ _ => ⟨rfl, rfl⟩, fun i h1 h2 => by omega, ⟨Nat.le_refl _, Nat.le_refl _⟩, hP.2.2.2.2.2.2.1.2.1.1⟩, fun _ _ _ => rfl, CPF_refl, u, 0, fun _ _ => rfl, ?_, RPF_refl, fun _ _ => rfl, fun _ _ => ⟨rfl, rfl⟩, Nat.zero_le _⟩
    have e : (fun x => gd x ∨ (nA + i ≤ x ∧ x < nA + dM (D c)) ∨ (jAn H ≤ x ∧ x < jAn H)) = gd := by
      funext x
      exact propext ⟨fun z => by
        rcases z with z | z | z
        · exact z
        · omega
        · omega, Or.inl⟩
    rw [e]
    rw [Nat.sub_self, Nat.add_zero] at hP
    exact hP
  | succ j ih =>
    intro i H gd τ u hj hi hb hP hg1 hg2 hg3 hg4 hg5 hA hgd hen hpre
    have him : i < m := by omega
    have hRP := hP.1
    have hAN := (hN τ u hRP).1
    have hA6 := hP.2.2.2.2.2.2.1.2.2.2.2.2.1
    have he0 := hP.2.2.2.2.2.1.1
    have h87 := hP.2.2.2.2.2.1.2.1
    have h101 := hP.2.2.2.2.2.1.2.2.2
    obtain ⟨k1, k2, k3, k4⟩ := hkid i him
    obtain ⟨e169, e170⟩ := hen i (Nat.le_refl _) him
    have hPq : PO E G F nS pN bN lN' ty W D tk LO sl sp H φ gd (q + (m - 1 - i)) τ (jx_i u 106 101 (nI (q + (m - 1 - i)))) := PO_q hP
    have hLO : LO c ≤ LO (dC (D c) i) := by
      rw [k2]
      by_cases z : i = 0
      · rw [if_pos z]; exact Nat.le_refl _
      · rw [if_neg z]; have := (hkid (i - 1) (by omega)).1; omega
    have hlo : (if i + 1 = 0 then LO c else dC (D c) (i + 1 - 1) + 1) = dC (D c) i + 1 := by rw [if_neg (by omega), Nat.add_sub_cancel]
    have hout := hat i him H gd τ _ hb hPq (hpre i (Nat.le_refl _) him)
    rcases hout with ⟨a, τ1, ρ1, r1, r2, x5, x6⟩ | ⟨v, τ1, y, ρ1, r1, r2, x5, x7, x6⟩
    · have hsim : simU gd ρ1 (jx_l ρ1 160 (nA + i) (rV a)) := ⟨rfl, fun r hr => s_l_ne hr, fun a' ha' => by
        rw [s_l_eq, v_ne (fun z => hgd a' (by omega) (by omega) ha')]⟩
      obtain ⟨H1, ρ2, st, ⟨x1, x2, x3, x4⟩, l1, l2, l3, l4, l5, l6⟩ := x6 _ hsim
      have hstep : ∀ x3, r12 (nI (jFb H φ), x3, u) = some (.inl (nI (jFb H φ), x3, jx_l ρ1 160 (nA + i) (rV a))) := fun x3 => r12_step (q := q + (m - 1 - i)) (by omega) (by rw [h101, show q + (m - i) = q + (m - 1 - i) + 1 by omega]) h87 e169 e170 (by omega) r2 x3
      have hF := HQ_f x2
      obtain ⟨hG0, hG1, hG2, hG3, hG4⟩ : jGn H ≤ jGn H1 ∧ jGg H1 nG = g ∧ jGt H1 nG = t + m ∧ jGf H1 nG = nA ∧ jGs H1 nG = m := by
        obtain ⟨_, _, q1, q2⟩ := x1
        obtain ⟨z1, z2, z3, z4⟩ := q2 nG hg1
        exact ⟨q1, z1.trans hg4, z2.trans hg5, z3.trans hg2, z4.1.trans hg3⟩
      have hAn := x2.2.2.2.2.2.1.1
      have hgot : ρ2.2 160 (nA + i) = rV a := by rw [l4 _ (by omega), s_l_eq, v_eq rfl]
      have hPg := PO_got (p := nG) (i := i) (v := a) l2 (by omega) (by omega) (by omega) (by rw [hG3]; exact hgot) (by
        rw [hG1, hG2, hG4, show t + m - m + i = t + i by omega, ← hty i him]; exact x4)
      rw [hG3] at hPg
      have hFb1 : jFb (hGot H1 (nA + i) a) φ = b := by
        show jFb H1 φ = b
        rw [hF.2.1]; exact hb
      have hO : ∀ k, i + 1 ≤ k → k < m → PRe E G F nS pN bN lN' ty W D tk LO sl sp (hGot H1 (nA + i) a) φ d (dC (D c) k) := fun k q1 q2 => by
        obtain ⟨u1, u2, u3, u4, u5⟩ := hpre k (by omega) q2
        refine ⟨?_, ?_, ?_, ?_, fun c' y1 y2 => ?_⟩
        · show φ < jFn H1
          rw [hF.1]; exact u1
        · show nS (jFf H1 φ) ≤ _
          rw [hF.2.2.1]; exact u2
        · show _ < nS (jFf H1 φ + 1)
          rw [hF.2.2.1]; exact u3
        · show ∀ s, gV G _ s → jLb H1 φ s
          rw [hF.2.2.2.1]; exact u4
        · show jOw H1 c' φ = _
          have hlt : dC (D c) i < LO (dC (D c) k) := by
            -- later parts lie behind
            have hmono : ∀ n, i + 1 + n < m → dC (D c) i < LO (dC (D c) (i + 1 + n)) := by
              intro n
              induction n with
              | zero =>
                intro hn
                have := (hkid (i + 1) (by omega)).2.1
                rw [if_neg (by omega), Nat.add_sub_cancel] at this
                rw [Nat.add_zero, this]; omega
              | succ n ihn =>
                intro hn
                have z1 := ihn (by omega)
                have z2 := (hkid (i + 1 + n) (by omega)).2.2.1
                have z3 := (hkid (i + 1 + (n + 1)) hn).2.1
                rw [if_neg (by omega), show i + 1 + (n + 1) - 1 = i + 1 + n by omega] at z3
                omega
            have := hmono (k - (i + 1)) (by omega)
            rw [show i + 1 + (k - (i + 1)) = k by omega] at this
            exact this
          rw [x3 c' φ (fun z => by omega)]
          exact u5 c' y1 y2
      have hres := ih (i + 1) (hGot H1 (nA + i) a) _ (jL_put 6000 τ1 99 (nI (nA + i)) (cV a)) ρ2 (by omega) (by omega) hFb1 (by rw [show q + (m - (i + 1)) = q + (m - 1 - i) by omega]; exact hPg) (show nG < jGn H1 by omega) hG3 hG4 hG1 hG2 (show nA + m ≤ jAn H1 by omega) (fun x z1 z2 z => by
          rcases z with (z | z) | z
          · exact hgd x (by omega) z2 z
          · omega
          · omega) (fun k z1 z2 => by
          obtain ⟨w1, w2⟩ := l5 (q + (m - 1 - k)) (by omega)
          obtain ⟨w3, w4⟩ := hen k (by omega) z2
          rw [w1, w2, s_i_ne (by decide), s_i_ne (by decide)]
          exact ⟨w3, w4⟩) hO
      have hcs := c127_step (rec := rec) (w := w) (nA := nA) (x7 := nI nG) hAN hm hm8 him he0 r1
      have hfr : RPF u ρ2 := RPF_trans RPF_q l3
      have hst0 : (if i = 0 then LO c else dC (D c) (i - 1) + 1) ≤ dC (D c) i := by rw [← k2]; exact k3
      have hHQ : HQ H (hGot H1 (nA + i) a) := HQ_trans x2 (HQ_got x2.2.2.2.2.2.2)
      rcases hres with ⟨τ', e1, H', y1, y2, y3, y4, ρ3, st', m1, m2, m3, m4, m5, m6⟩ | ⟨v, τ', e1, H', y2, y4, y5, ρ3, st', m1, m2, m3, m4, m6⟩
      · refine Or.inl ⟨τ', fun N => ?_, H', HX_trans x1 (HX_trans HX_got y1), HQ_trans hHQ y2, fun c' ψ z => ?_, CPF_trans x5 (CPF_trans CPF_got y4), ρ3, 1 + st + st', fun N x3 => ?_, ?_, RPF_trans hfr m3, fun x hx => ?_, fun j' hj' => ?_, ?_⟩
        · rw [show N + (j + 1) + 1 = (N + j + 1) + 1 by omega, jx_loop_inl hcs, e1]
        · rw [y3 c' ψ z]
          show jOw H1 c' ψ = _
          exact x3 c' ψ (fun z2 => z ⟨z2.1, by have := z2.2.1; omega, by omega⟩)
        · rw [show N + (1 + st + st') = ((N + st') + st) + 1 by omega, jx_loop_inl (hstep x3), l1]
          have := m1 N x3
          rw [hFb1, ← hb] at this
          exact this
        · have e : (fun x => gd x ∨ (nA + i ≤ x ∧ x < nA + dM (D c)) ∨ (jAn H ≤ x ∧ x < jAn H')) = (fun x => ((gd x ∨ (jAn H ≤ x ∧ x < jAn H1)) ∨ x = nA + i) ∨ (nA + (i + 1) ≤ x ∧ x < nA + dM (D c)) ∨ (jAn (hGot H1 (nA + i) a) ≤ x ∧ x < jAn H')) := by
            funext x
            have e1 : jAn (hGot H1 (nA + i) a) = jAn H1 := rfl
            have e2 : jAn H1 ≤ jAn H' := y2.2.2.2.2.2.1.1
            rw [e1, hm]
            refine propext ⟨fun z => ?_, fun z => ?_⟩
            · rcases z with z | z | z
              · exact Or.inl (Or.inl (Or.inl z))
              · by_cases y : x = nA + i
                · exact Or.inl (Or.inr y)
                · exact Or.inr (Or.inl (by omega))
              · by_cases y : x < jAn H1
                · exact Or.inl (Or.inl (Or.inr (by omega)))
                · exact Or.inr (Or.inr (by omega))
            · rcases z with ((z | z) | z) | z | z
              · exact Or.inl z
              · exact Or.inr (Or.inr (by omega))
              · exact Or.inr (Or.inl (by omega))
              · exact Or.inr (Or.inl (by omega))
              · exact Or.inr (Or.inr (by omega))
          rw [e]; exact m2
        · rw [m4 x hx, l4 x (by omega), s_l_eq, v_ne (by omega)]
          -- what was got before stays
          exact (f_r_putOne _ _ _ _ jFr.rfl _ r2 160 x (by decide) (by simp [fs_r_putOne])).2
        · obtain ⟨w1, w2⟩ := m5 j' hj'
          obtain ⟨w3, w4⟩ := l5 j' (by omega)
          rw [w1, w2, w3, w4, s_i_ne (by decide), s_i_ne (by decide)]
          exact ⟨rfl, rfl⟩
        · rw [hlo] at m6
          omega
      · refine Or.inr ⟨v, τ', fun N => ?_, H', HQ_trans hHQ y2, CPF_trans x5 (CPF_trans CPF_got y4), y5, ρ3, 1 + st + st', fun N x3 => ?_, m2, m3, RPF_trans hfr m4, ?_⟩
        · rw [show N + (j + 1) + 1 = (N + j + 1) + 1 by omega, jx_loop_inl hcs, e1]
        · rw [show N + (1 + st + st') + 1 = ((N + st' + 1) + st) + 1 by omega, jx_loop_inl (hstep x3), l1]
          have := m1 N x3
          rw [hFb1, ← hb] at this
          exact this
        · rw [hlo] at m6
          omega
    · have hsim : simU gd ρ1 (jx_l ρ1 160 (nA + i) y) := ⟨rfl, fun r hr => s_l_ne hr, fun a' ha' => by
        rw [s_l_eq, v_ne (fun z => hgd a' (by omega) (by omega) ha')]⟩
      obtain ⟨H1, ρ2, st, x2, l1, l2, l3, l4, l6⟩ := x6 _ hsim
      have hstep : ∀ x3, r12 (nI (jFb H φ), x3, u) = some (.inl (nI (jFb H φ), x3, jx_l ρ1 160 (nA + i) y)) := fun x3 => r12_step (q := q + (m - 1 - i)) (by omega) (by rw [h101, show q + (m - i) = q + (m - 1 - i) + 1 by omega]) h87 e169 e170 (by omega) r2 x3
      have hcs := c127_step (rec := rec) (w := w) (nA := nA) (x7 := nI nG) hAN hm hm8 him he0 r1
      refine Or.inr ⟨cV (5, nI nG), jL_put 6000 τ1 99 (nI (nA + i)) v, fun N => ?_, H1, x2, CPF_trans x5 CPF_got, x7, ρ2, 1 + st, fun N x3 => ?_, l2, RPu_got l3, RPF_trans RPF_q l4, ?_⟩
      · rw [show N + (j + 1) + 1 = (N + j + 1) + 1 by omega, jx_loop_inl hcs]
        exact c127_out hm8 (by omega) (Or.inr (by rw [s_q_1, x7]; decide)) (N + j)
      · rw [show N + (1 + st) + 1 = (N + st + 1) + 1 by omega, jx_loop_inl (hstep x3), l1]
      · have : (if i = 0 then LO c else dC (D c) (i - 1) + 1) ≤ dC (D c) i := by rw [← k2]; exact k3
        omega
