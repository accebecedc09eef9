/-! TYPING, 7: the atoms of a name. -/
def pushN (ρ : jx_S) (cs wt : Nat → Nat) (b : Nat) : Nat → jx_S
  | 0 => ρ
  | k + 1 => jx_i (jx_i (pushN ρ cs wt b k) 144 (b - 1 - k) (nI (cs k))) 145 (b - 1 - k) (nI (wt k))
def putN (τ : jx_S) (cs wt : Nat → Nat) : Nat → jx_S
  | 0 => τ
  | k + 1 => jI_put 1201 (putN τ cs wt k) 37 (nI (cs k + 1)) (nI (wt k))
theorem pushN_ne {ρ : jx_S} {cs wt : Nat → Nat} {b r : Nat} (h1 : r ≠ 144) (h2 : r ≠ 145) : ∀ k, (pushN ρ cs wt b k).1 r = ρ.1 r := by
  intro k
  induction k with
  | zero => rfl
  | succ k ih => rw [pushN, s_i_ne h2, s_i_ne h1, ih]
theorem pushN_2 {ρ : jx_S} {cs wt : Nat → Nat} {b : Nat} : ∀ k, (pushN ρ cs wt b k).2 = ρ.2 := by
  intro k
  induction k with
  | zero => rfl
  | succ k ih => rw [pushN, s_i_2, s_i_2, ih]
theorem pushN_at {ρ : jx_S} {cs wt : Nat → Nat} {b : Nat} : ∀ k, k ≤ b → (∀ i, i < k → (pushN ρ cs wt b k).1 144 (b - 1 - i) = nI (cs i) ∧ (pushN ρ cs wt b k).1 145 (b - 1 - i) = nI (wt i)) ∧ ∀ j, j < b - k → (pushN ρ cs wt b k).1 144 j = ρ.1 144 j ∧ (pushN ρ cs wt b k).1 145 j = ρ.1 145 j := by
  intro k
  induction k with
  | zero => intro _; exact ⟨fun i hi => absurd hi (by omega), fun j _ => ⟨rfl, rfl⟩⟩
  | succ k ih =>
    intro hk
    obtain ⟨i1, i2⟩ := ih (by omega)
    have e1 : (pushN ρ cs wt b (k + 1)).1 144 = upd ((pushN ρ cs wt b k).1 144) (b - 1 - k) (nI (cs k)) := by rw [pushN, s_i_ne (by decide), s_i_eq]
    have e2 : (pushN ρ cs wt b (k + 1)).1 145 = upd ((pushN ρ cs wt b k).1 145) (b - 1 - k) (nI (wt k)) := by rw [pushN, s_i_eq, s_i_ne (by decide)]
    rw [e1, e2]
    refine ⟨fun i hi => ?_, fun j hj => ?_⟩
    · by_cases hik : i = k
      · subst hik; exact ⟨u_eq rfl, u_eq rfl⟩
      · rw [u_ne (by omega), u_ne (by omega)]; exact i1 i (by omega)
    · rw [u_ne (by omega), u_ne (by omega)]; exact i2 j (by omega)
theorem putN_ne {τ : jx_S} {cs wt : Nat → Nat} {r : Nat} (h1 : r ≠ 37) : ∀ k, (putN τ cs wt k).1 r = τ.1 r := by
  intro k
  induction k with
  | zero => rfl
  | succ k ih => rw [putN, s_p_ne h1, ih]
theorem putN_2 {τ : jx_S} {cs wt : Nat → Nat} : ∀ k, (putN τ cs wt k).2 = τ.2 := by
  intro k
  induction k with
  | zero => rfl
  | succ k ih => rw [putN, s_p_2, ih]
theorem putN_at {τ : jx_S} {cs wt : Nat → Nat} : ∀ k, (∀ i, i < k → cs i < 1200) → (∀ i j, i < j → j < k → cs i ≠ cs j) → (∀ i, i < k → (putN τ cs wt k).1 37 (cs i + 1) = nI (wt i)) ∧ ∀ j, (∀ i, i < k → j ≠ cs i + 1) → (putN τ cs wt k).1 37 j = τ.1 37 j := by
  intro k
  induction k with
  | zero => intro _ _; exact ⟨fun i hi => absurd hi (by omega), fun j _ => rfl⟩
  | succ k ih =>
    intro h1 h2
    obtain ⟨i1, i2⟩ := ih (fun i hi => h1 i (by omega)) (fun i j hij hj => h2 i j hij (by omega))
    have hk := h1 k (by omega)
    have e1 : (putN τ cs wt (k + 1)).1 37 = upd ((putN τ cs wt k).1 37) (cs k + 1) (nI (wt k)) := by rw [putN, s_p_eq, jI_up_in (by omega) (by omega)]
    rw [e1]
    refine ⟨fun i hi => ?_, fun j hj => ?_⟩
    · by_cases hik : i = k
      · subst hik; exact u_eq rfl
      · have := h2 i k (by omega) (by omega)
        rw [u_ne (by omega)]; exact i1 i (by omega)
    · rw [u_ne (hj k (by omega))]; exact i2 j (fun i hi => hj i (by omega))
/-- the reference puts the atoms on its stack -/
theorem r_atoms {ρ : jx_S} {x q m : Nat} {cs wt : Nat → Nat} (hx : x < 3000) (hm : m < 1200) (hq : q + m < 3000) (h119 : ρ.1 119 x = nI m) (h114 : 0 < m → ρ.1 114 x = nI (cs 0)) (hcs : ∀ i, i < m → cs i < 3000) (hlk : ∀ i, i + 1 < m → ρ.1 120 (cs i) = nI (cs (i + 1))) (hty : ∀ σ : jx_S, (∀ r, r ≠ 144 → r ≠ 145 → σ.1 r = ρ.1 r) → ∀ k, k < m → p_r_typeOf (nI x) (nI k) σ = some (nI (wt k), σ)) : p_r_checkName_117 (nI x) (nI q) (ρ.1 114 x) 0 ρ = some (1, pushN ρ cs wt (q + m) m) := by
  unfold p_r_checkName_117
  have X : ∀ k, k < m → (if k = 0 then ρ.1 114 x else ρ.1 120 (cs (k - 1))) = nI (cs k) := by
    intro k hk
    by_cases h0 : k = 0
    · subst h0; rw [if_pos rfl]; exact h114 hk
    · rw [if_neg h0, hlk (k - 1) (by omega), show k - 1 + 1 = k by omega]
  have key := jx_loop_for (f := fun s : Int32 × Int32 × Int32 × Int32 × jx_S => p_r_checkName_117_s s.1 s.2.1 s.2.2.1 s.2.2.2.1 (s.2.2.2.2)) (fun k => (nI x, nI q, (if k = 0 then ρ.1 114 x else ρ.1 120 (cs (k - 1))), nI k, pushN ρ cs wt (q + m) k)) m (X := some (1, pushN ρ cs wt (q + m) m)) (n := 100000000) (by
    intro k hk
    show p_r_checkName_117_s (nI x) (nI q) (if k = 0 then ρ.1 114 x else ρ.1 120 (cs (k - 1))) (nI k) (pushN ρ cs wt (q + m) k) = _
    rw [X k hk]
    have hc := hcs k hk
    have e119 : (pushN ρ cs wt (q + m) k).1 119 x = nI m := by rw [pushN_ne (by decide) (by decide)]; exact h119
    have eix : nI q + nI m - 1 - nI k = nI (q + m - 1 - k) := by rw [nI_add, show (1 : Int32) = nI 1 from rfl, nI_sub (by omega), nI_sub (by omega)]
    have ety := hty (jx_i (pushN ρ cs wt (q + m) k) 144 (q + m - 1 - k) (nI (cs k))) (fun r h1 h2 => by rw [s_i_ne h1, pushN_ne h1 h2]) k hk
    unfold p_r_checkName_117_s
    rw [if_neg (nI_in hx (by omega)), nI_clamp (show x < 2 ^ 31 by omega), e119, if_neg (nI_ge hk (by omega)), eix, if_neg (nI_in (show q + m - 1 - k < 3000 by omega) (by omega)), nI_clamp (show q + m - 1 - k < 2 ^ 31 by omega), ety, Option.bind_some]
    have n1 : ¬ (nI x < 0 ∨ 3000 ≤ x) := fun z => by
      rcases z with z | z
      · exact nI_pos (by omega) z
      · omega
    have n2 : ¬ (nI (q + m - 1 - k) < 0 ∨ 3000 ≤ q + m - 1 - k) := fun z => by
      rcases z with z | z
      · exact nI_pos (by omega) z
      · omega
    rw [if_neg n1, if_neg n1, if_neg n2, if_neg (nI_in hc (by omega)), nI_clamp (show cs k < 2 ^ 31 by omega), s_i_ne (show (120 : Nat) ≠ 144 by decide), pushN_ne (by decide) (by decide), ← nI_succ]
    rw [if_neg (show ¬ k + 1 = 0 by omega), Nat.add_sub_cancel]
    rfl) (by
    show p_r_checkName_117_s (nI x) (nI q) (if m = 0 then ρ.1 114 x else ρ.1 120 (cs (m - 1))) (nI m) (pushN ρ cs wt (q + m) m) = _
    unfold p_r_checkName_117_s
    rw [if_neg (nI_in hx (by omega)), nI_clamp (show x < 2 ^ 31 by omega), pushN_ne (by decide) (by decide), h119, if_pos (nI_le (Nat.le_refl m) (by omega))]) (by omega)
  exact key
/-- the class puts the atoms' wanted types -/
theorem c_atoms {τ : jx_S} {m : Nat} {cs wt : Nat → Nat} {A B : Int32} (F : Int32 × Int32 × Int32 × Int32 × jx_S → Option ((Int32 × Int32 × Int32 × Int32 × jx_S) ⊕ jx_S)) (hF : ∀ k σ, k < m → (∀ r, r ≠ 37 → σ.1 r = τ.1 r) → F (A, B, nI (cs k + 1), nI k, σ) = some (.inl (A, B, jI_at 1201 (σ.1 29) (nI (cs k + 1)), nI (k + 1), jI_put 1201 σ 37 (nI (cs k + 1)) (nI (wt k))))) (hX : ∀ y σ, F (A, B, y, nI m, σ) = some (.inr σ)) (hm : m < 1200) (hcs : ∀ j, j < m → cs j < 1200 ∧ τ.1 29 (cs j + 1) = nI (if j + 1 < m then cs (j + 1) + 1 else 0)) : jx_loop 100000000 F (A, B, nI (if 0 < m then cs 0 + 1 else 0), nI 0, τ) = some (putN τ cs wt m) := by
  have key := jx_loop_for (f := F) (fun k => (A, B, nI (if k < m then cs k + 1 else 0), nI k, putN τ cs wt k)) m (X := some (putN τ cs wt m)) (n := 100000000) (by
    intro k hk
    show F (A, B, nI (if k < m then cs k + 1 else 0), nI k, putN τ cs wt k) = _
    obtain ⟨c1, c2⟩ := hcs k hk
    rw [if_pos hk, hF k _ hk (fun r hr => putN_ne hr k), jI_at_in (by omega) (by omega), putN_ne (by decide), c2]
    rfl) (by
    show F (A, B, nI (if m < m then cs m + 1 else 0), nI m, putN τ cs wt m) = _
    rw [hX]
    rfl) (by omega)
  exact key
/-- both sides behind a name that fits -/
theorem TSn {τ ρ τ1 ρ1 : jx_S} {x w q m : Nat} {cs wt : Nat → Nat} {g : Option Nat} (hcs : ∀ i, i < m → cs i < 1200) (hlt : ∀ i j, i < j → j < m → cs i ≠ cs j)
    (a1 : ∀ r, r ≠ 33 → τ1.1 r = τ.1 r) (a2 : τ1.2 = τ.2) (a3 : ∀ j, j ≠ x + 1 → τ1.1 33 j = τ.1 33 j) (a4 : g = none → τ1.1 33 = τ.1 33) (a5 : ∀ gg, g = some gg → τ1.1 33 (x + 1) = nI gg ∧ ρ1.1 123 x = nI gg)
    (b1 : ρ1.1 124 = upd (ρ.1 124) x (nI w)) (b2 : ∀ j, j ≠ x → ρ1.1 123 j = ρ.1 123 j) (b3 : ∀ r, r ∉ [106, 123, 124, 144, 145] → ρ1.1 r = ρ.1 r) (b4 : ρ1.2 = ρ.2) (b5 : ρ1.1 106 55 = nI (q + m)) (b6 : ∀ j, j ≠ 55 → ρ1.1 106 j = ρ.1 106 j) (b7 : ρ1.1 144 = ρ.1 144) (b8 : ρ1.1 145 = ρ.1 145) :
    TSok τ ρ x w q m cs wt g (putN τ1 cs wt m) (pushN ρ1 cs wt (q + m) m) := by
  obtain ⟨p1, p2⟩ := putN_at (τ := τ1) (wt := wt) m hcs hlt
  obtain ⟨q1, q2⟩ := pushN_at (ρ := ρ1) (cs := cs) (wt := wt) (b := q + m) m (by omega)
  refine ⟨fun r h1 h2 => by rw [putN_ne h1, a1 r h2], by rw [putN_2, a2], fun j hj => by rw [putN_ne (by decide)]; exact a3 j hj, fun h => by rw [putN_ne (by decide)]; exact a4 h, fun gg h => by rw [putN_ne (by decide), pushN_ne (by decide) (by decide)]; exact a5 gg h, p1, fun j _ hj => by rw [p2 j hj, a1 37 (by decide)], by rw [pushN_ne (by decide) (by decide)]; exact b5, fun j hj => by rw [pushN_ne (by decide) (by decide)]; exact b6 j hj, fun i hi => ?_, fun j hj => ?_, by rw [pushN_ne (by decide) (by decide)]; exact b1, fun j hj => by rw [pushN_ne (by decide) (by decide)]; exact b2 j hj, fun r hr => ?_, by rw [pushN_2, b4]⟩
  · have := q1 i hi
    rw [show q + (m - 1 - i) = q + m - 1 - i by omega]
    exact this
  · have := q2 j (by omega)
    rw [b7, b8] at this
    exact this
  · have h := hr
    simp only [List.mem_cons, List.not_mem_nil, or_false, not_or] at h
    rw [pushN_ne h.2.2.2.1 h.2.2.2.2]
    exact b3 r hr
theorem ty_local {E : jEn} (hE : EnvOK E) {τ ρ : jx_S} {x w q tk m f s tys : Nat} {cs : Nat → Nat} (hC : EnvC E τ) (hR : EnvR E ρ) (hx : x < 1200) (c1 : ρ.1 112 x = nI 1) (c2 : ρ.1 113 x = nI tk) (c3 : τ.1 25 (x + 1) = nI tk) (c4 : tk < eC E) (c7 : τ.1 23 (x + 1) = nI 28) (c12 : τ.1 27 (x + 1) = nI (if 0 < m then cs 0 + 1 else 0)) (c13 : ρ.1 119 x = nI m) (c14 : τ.1 35 (x + 1) = nI m) (c16 : 0 < m → ρ.1 114 x = nI (cs 0)) (hcs : ∀ j, j < m → cs j < 1200 ∧ τ.1 29 (cs j + 1) = nI (if j + 1 < m then cs (j + 1) + 1 else 0)) (hlk : ∀ i, i + 1 < m → ρ.1 120 (cs i) = nI (cs (i + 1))) (hlt : ∀ i j, i < j → j < m → cs i ≠ cs j) (hm : m < 1200) (hw : w < 14) (h37 : τ.1 37 (x + 1) = nI w) (h0 : τ.1 1 0 = 0) (h4 : ρ.1 106 4 = 0) (h55 : ρ.1 106 55 = nI q) (hq : q + m < 3000) (hs30 : s < 30) (hf : f < 40) (r117 : ρ.1 117 x = nI s) (c33 : τ.1 33 (x + 1) = nI s) (hty : tys < 14) (t57 : τ.1 57 (30 * f + s) = nI tys) (r137 : ρ.1 137 (30 * f + s) = nI tys) (h56 : ρ.1 106 56 = nI f) :
    ∃ τ' ρ', p_cTyp_checkNode (nI f) (nI (x + 1)) τ = some τ' ∧ ((p_r_check (nI x) (nI w) ρ = some (0, ρ') ∧ TSno τ ρ (eP E tk) 7 τ' ρ') ∨ (p_r_check (nI x) (nI w) ρ = some (1, ρ') ∧ TSok τ ρ x w q m cs (fun i => tyP tys i) none τ' ρ' ∧ m ≤ tyA tys ∧ tyL tys m = w)) := by
  have hE1 := hE.1
  have hp := (hR.2 tk (by omega)).2.1
  have k23 : jI_at 1201 (τ.1 23) (nI (x + 1)) = nI 28 := by rw [jI_at_in (by omega) (by omega)]; exact c7
  have k37 : jI_at 1201 (τ.1 37) (nI (x + 1)) = nI w := by rw [jI_at_in (by omega) (by omega)]; exact h37
  have k33 : jI_at 1201 (τ.1 33) (nI (x + 1)) = nI s := by rw [jI_at_in (by omega) (by omega)]; exact c33
  have k35 : jI_at 1201 (τ.1 35) (nI (x + 1)) = nI m := by rw [jI_at_in (by omega) (by omega)]; exact c14
  have rq := q_require_no hE hC h0 hx c3 c4
  have ety : v_cFun_typeOf (nI f) (nI s) τ = nI tys := by
    unfold v_cFun_typeOf
    rw [show nI f * (30 : Int32) = nI (f * 30) from nI_mul f 30, nI_add, jI_at_in (by omega) (by omega), show f * 30 + s = 30 * f + s by omega]
    exact t57
  have hA2 := tyA_le (ty := tys)
  -- the reference's own questions
  have ρ1n : ∀ r, r ≠ 124 → (jx_i ρ 124 x (nI w)).1 r = ρ.1 r := fun r hr => s_i_ne hr
  have e30 : (30 : Int32) * nI f + nI s = nI (30 * f + s) := by rw [show (30 : Int32) = nI 30 from rfl, nI_mul, nI_add]
  have n1 : ¬ (nI x < 0 ∨ 3000 ≤ x) := fun z => by
    rcases z with z | z
    · exact nI_pos (by omega) z
    · omega
  have rty : ∀ σ : jx_S, (∀ r, r ≠ 124 → r ≠ 144 → r ≠ 145 → r ≠ 106 → σ.1 r = ρ.1 r) → σ.1 106 56 = nI f → ∀ k, k < 3 → p_r_typeOf (nI x) (nI k) σ = some (nI (tyP tys k), σ) := by
    intro σ h1 h2 k hk
    unfold p_r_typeOf
    rw [if_neg (nI_in (show x < 3000 by omega) (by omega)), nI_clamp (show x < 2 ^ 31 by omega), h1 117 (by decide) (by decide) (by decide) (by decide), r117, if_neg (nI_pos (by omega)), if_neg n1, h2, e30, if_neg (nI_in (show 30 * f + s < 1200 by omega) (by omega)), nI_clamp (show 30 * f + s < 2 ^ 31 by omega), h1 137 (by decide) (by decide) (by decide) (by decide), r137, r_part _ hty hk]
  have rtk : ∀ σ : jx_S, (∀ r, r ≠ 124 → r ≠ 144 → r ≠ 145 → r ≠ 106 → σ.1 r = ρ.1 r) → σ.1 106 56 = nI f → p_r_takes (nI x) σ = some (nI (tyA tys), σ) := by
    intro σ h1 h2
    unfold p_r_takes
    rw [if_neg (nI_in (show x < 3000 by omega) (by omega)), nI_clamp (show x < 2 ^ 31 by omega), h1 117 (by decide) (by decide) (by decide) (by decide), r117, if_neg (nI_pos (by omega)), if_neg n1, h2, e30, if_neg (nI_in (show 30 * f + s < 1200 by omega) (by omega)), nI_clamp (show 30 * f + s < 2 ^ 31 by omega), h1 137 (by decide) (by decide) (by decide) (by decide), r137, r_arity _ hty]
  have σ1 : ∀ r, r ≠ 124 → r ≠ 144 → r ≠ 145 → r ≠ 106 → (jx_i ρ 124 x (nI w)).1 r = ρ.1 r := fun r hr _ _ _ => s_i_ne hr
  have σ2 : (jx_i ρ 124 x (nI w)).1 106 56 = nI f := by rw [s_i_ne (by decide)]; exact h56
  have hcn : ∀ r, p_r_checkName_54 (nI x) (nI w) (nI (eP E tk)) (jx_i ρ 124 x (nI w)) = some r → (r.1 = 0 ∨ r.1 = 1) → p_r_check (nI x) (nI w) ρ = some r := by
    intro r e hr
    unfold p_r_check p_r_checkName
    rw [if_neg (nI_in (show x < 3000 by omega) (by omega)), nI_clamp (show x < 2 ^ 31 by omega), c2, if_neg (nI_in (show tk < 1202 by omega) (by omega)), if_neg n1, if_neg n1, c1, if_neg (by decide), if_neg n1, ρ1n 113 (by decide), c2, if_neg (nI_in (show tk < 1202 by omega) (by omega)), if_neg n1, ρ1n 117 (by decide), r117, if_pos (nI_pos' (by omega)), ρ1n 109 (by decide), nI_clamp (show tk < 2 ^ 31 by omega), hp, e, Option.bind_some, if_pos hr]
  have h119 : (jx_i ρ 124 x (nI w)).1 119 x = nI m := by rw [s_i_ne (by decide)]; exact c13
  obtain ⟨_, n8, n9, n10⟩ := r_no7 (ρ := ρ) (x := x) (w := w) (P := eP E tk) h4
  have n7 : p_r_checkName_77 (nI (eP E tk)) (jx_i ρ 124 x (nI w)) = some (0, rtell (jx_i ρ 124 x (nI w)) 7 (nI (eP E tk))) := by
    unfold p_r_checkName_77
    exact r_fails7 (by rw [s_i_ne (by decide)]; exact h4) 7 _
  -- the class refuses
  have cno : p_cTyp_checkLocal_68 (nI (x + 1)) (nI tys) (nI m) (nI (x + 1)) τ = some (ctell τ 7 (nI (eP E tk))) := by
    unfold p_cTyp_checkLocal_68 p_cTyp_checkLocal_69 p_cTyp_checkLocal_88
    rw [rq, Option.bind_some]
    refine jx_loop_out (X := some (ctell τ 7 (nI (eP E tk)))) ?_ 99999999
    show p_cTyp_checkLocal_88_s (nI tys) (nI m) _ 0 _ = _
    unfold p_cTyp_checkLocal_88_s
    rw [told_v (by unfold ctell; simp (disch := first | assumption | decide | omega) only [nI_lit, cT_lt, cF_lt, cT_le, cF_le, cT_eq, cF_eq, nF_le, mF_eq, mG_eq, mT_lt, eq_self, nI_clamp, nI_add, Nat.add_zero, nI_sub, s_i_ne, s_i_eq, s_i_2, s_l_1, s_l_ne, s_l_eq, s_p_ne, s_p_eq, s_p_2, s_q_1, s_q_ne, s_q_eq, u_ne, u_eq, v_ne, v_eq, w_ne, w_eq, jI_at_in, jL_at_in, false_or, or_false, true_or, or_true, true_and, and_true, false_and, and_false, not_true_eq_false, not_false_eq_true, ↓reduceIte, Option.bind_some, Option.map_some]; decide), if_pos (show ¬ (1 : Int32) = 0 by decide)]
    split <;> rfl
  have ccl : ∀ r, (if nI (tyA tys) < nI m then some (ctell τ 7 (nI (eP E tk))) else (if ¬ (v_cTyp_leftOf (nI tys) (nI m) τ) = nI w then some (ctell τ 7 (nI (eP E tk))) else p_cTyp_checkLocal_69 (nI (x + 1)) (nI tys) (nI m) (1 : Int32) (nI (x + 1)) τ)) = some r → p_cTyp_checkNode (nI f) (nI (x + 1)) τ = some r := by
    intro r e
    unfold p_cTyp_checkNode p_cTyp_checkLocal
    rw [k23, k33, k35, k37, ety, c_taken τ hty, cno, e]
    rfl
  by_cases hma : m ≤ tyA tys
  · have hl3 := (ty_l0 tys hty m (by omega) hma)
    rw [if_neg (nI_nlt hma (by omega)), c_leftOf τ hty hma] at ccl
    have rleft : p_r_left (nI x) (jx_i ρ 124 x (nI w)) = some (nI (tyL tys m), jx_i ρ 124 x (nI w)) := by
      unfold p_r_left p_r_left_48 p_r_left_69
      rw [rtk _ σ1 σ2, Option.bind_some]
      dsimp only
      rw [if_neg (nI_in (show x < 3000 by omega) (by omega)), nI_clamp (show x < 2 ^ 31 by omega), rty _ σ1 σ2 (tyA tys) (by omega), Option.bind_some, h119]
      dsimp only
      rw [nI_sub hma, hl3.2.2]
      have hp0 := ty_p0 tys hty
      rcases (show tyA tys - m = 0 ∨ tyA tys - m = 1 ∨ tyA tys - m = 2 by omega) with z | z | z
      · rw [z, if_neg (by decide), if_pos rfl]
      · have b0 := ((hp0 m (by omega)).2.2 (by omega)).2
        rw [z, if_pos (by decide), if_neg (by decide), rty _ σ1 σ2 m (by omega), Option.bind_some]
        dsimp only
        rw [if_pos (by decide), if_neg (show ¬ (1 : Int32) < nI (tyP tys m) from (nI_nlt (by omega) (by omega) : ¬ nI 1 < nI (tyP tys m))), if_pos (by decide), if_neg (by decide), if_neg (by omega), if_pos rfl, show (2 : Int32) = nI 2 from rfl, nI_mul, nI_add, nI_add]
      · have b0 := ((hp0 m (by omega)).2.2 (by omega)).2
        have b1 := ((hp0 (m + 1) (by omega)).2.2 (by omega)).2
        rw [z, if_pos (by decide), if_neg (by decide), rty _ σ1 σ2 m (by omega), Option.bind_some]
        dsimp only
        rw [if_neg (by decide), show nI m + (1 : Int32) = nI (m + 1) from nI_1 m, rty _ σ1 σ2 (m + 1) (by omega), Option.bind_some]
        dsimp only
        rw [if_neg (show ¬ (1 : Int32) < nI (tyP tys m) from (nI_nlt (by omega) (by omega) : ¬ nI 1 < nI (tyP tys m))), if_pos (show nI (tyP tys (m + 1)) ≤ (1 : Int32) from (nI_le (by omega) (by omega) : nI (tyP tys (m + 1)) ≤ nI 1)), if_pos (by decide), if_neg (by omega), if_neg (by omega), show (6 : Int32) = nI 6 from rfl, show (4 : Int32) = nI 4 from rfl, show (2 : Int32) = nI 2 from rfl, nI_mul, nI_mul, nI_add, nI_add, nI_add]
    by_cases hl : tyL tys m = w
    · -- it fits
      rw [if_neg (by rw [hl]; simp)] at ccl
      have hloop := c_atoms (τ := τ) (m := m) (cs := cs) (wt := fun i => tyP tys i) (A := nI tys) (B := nI m) (fun s => p_cTyp_checkLocal_88_s s.1 s.2.1 s.2.2.1 s.2.2.2.1 (s.2.2.2.2)) (fun k σ hk hσ => by
        show p_cTyp_checkLocal_88_s (nI tys) (nI m) (nI (cs k + 1)) (nI k) σ = _
        unfold p_cTyp_checkLocal_88_s
        rw [if_neg (nI_ge hk (by omega)), show v_cFau_isTold σ = 0 from if_pos (by rw [hσ 1 (by decide)]; exact h0), if_neg (by decide), c_partOf σ hty (by omega), ← nI_succ]) (fun y σ => by
        show p_cTyp_checkLocal_88_s (nI tys) (nI m) y (nI m) σ = _
        unfold p_cTyp_checkLocal_88_s
        rw [if_pos (nI_le (Nat.le_refl m) (by omega))]
        rfl) hm hcs
      have h55' : (jx_i ρ 124 x (nI w)).1 106 55 = nI q := by rw [s_i_ne (by decide)]; exact h55
      have hra := r_atoms (ρ := jx_i (jx_i ρ 124 x (nI w)) 106 55 (nI (q + m))) (x := x) (q := q) (m := m) (cs := cs) (wt := fun i => tyP tys i) (by omega) hm hq (by simp (disch := first | assumption | decide | omega) only [c13, nI_lit, cT_lt, cF_lt, cT_le, cF_le, cT_eq, cF_eq, nF_le, mF_eq, mG_eq, mT_lt, eq_self, nI_clamp, nI_add, Nat.add_zero, nI_sub, s_i_ne, s_i_eq, s_i_2, s_l_1, s_l_ne, s_l_eq, s_p_ne, s_p_eq, s_p_2, s_q_1, s_q_ne, s_q_eq, u_ne, u_eq, v_ne, v_eq, w_ne, w_eq, jI_at_in, jL_at_in, false_or, or_false, true_or, or_true, true_and, and_true, false_and, and_false, not_true_eq_false, not_false_eq_true, ↓reduceIte, Option.bind_some, Option.map_some]) (fun hm0 => by simp (disch := first | assumption | decide | omega) only [c16 hm0, nI_lit, cT_lt, cF_lt, cT_le, cF_le, cT_eq, cF_eq, nF_le, mF_eq, mG_eq, mT_lt, eq_self, nI_clamp, nI_add, Nat.add_zero, nI_sub, s_i_ne, s_i_eq, s_i_2, s_l_1, s_l_ne, s_l_eq, s_p_ne, s_p_eq, s_p_2, s_q_1, s_q_ne, s_q_eq, u_ne, u_eq, v_ne, v_eq, w_ne, w_eq, jI_at_in, jL_at_in, false_or, or_false, true_or, or_true, true_and, and_true, false_and, and_false, not_true_eq_false, not_false_eq_true, ↓reduceIte, Option.bind_some, Option.map_some]) (fun i hi => by have := (hcs i hi).1; omega) (fun i hi => by simp (disch := first | assumption | decide | omega) only [hlk i hi, nI_lit, cT_lt, cF_lt, cT_le, cF_le, cT_eq, cF_eq, nF_le, mF_eq, mG_eq, mT_lt, eq_self, nI_clamp, nI_add, Nat.add_zero, nI_sub, s_i_ne, s_i_eq, s_i_2, s_l_1, s_l_ne, s_l_eq, s_p_ne, s_p_eq, s_p_2, s_q_1, s_q_ne, s_q_eq, u_ne, u_eq, v_ne, v_eq, w_ne, w_eq, jI_at_in, jL_at_in, false_or, or_false, true_or, or_true, true_and, and_true, false_and, and_false, not_true_eq_false, not_false_eq_true, ↓reduceIte, Option.bind_some, Option.map_some]) (fun σ hσ k hk => rty σ (fun r r1 r2 r3 r4 => by rw [hσ r r2 r3, s_i_ne r4, s_i_ne r1]) (by rw [hσ 106 (by decide) (by decide)]; simp (disch := first | assumption | decide | omega) only [h56, nI_lit, cT_lt, cF_lt, cT_le, cF_le, cT_eq, cF_eq, nF_le, mF_eq, mG_eq, mT_lt, eq_self, nI_clamp, nI_add, Nat.add_zero, nI_sub, s_i_ne, s_i_eq, s_i_2, s_l_1, s_l_ne, s_l_eq, s_p_ne, s_p_eq, s_p_2, s_q_1, s_q_ne, s_q_eq, u_ne, u_eq, v_ne, v_eq, w_ne, w_eq, jI_at_in, jL_at_in, false_or, or_false, true_or, or_true, true_and, and_true, false_and, and_false, not_true_eq_false, not_false_eq_true, ↓reduceIte, Option.bind_some, Option.map_some]) k (by omega))
      refine ⟨putN τ cs (fun i => tyP tys i) m, pushN (jx_i (jx_i ρ 124 x (nI w)) 106 55 (nI (q + m))) cs (fun i => tyP tys i) (q + m) m, ccl _ ?_, Or.inr ⟨hcn _ ?_ (Or.inr rfl), TSn (fun i hi => (hcs i hi).1) hlt (fun _ _ => rfl) rfl (fun _ _ => rfl) (fun _ => rfl) (fun gg hg => (by cases hg)) (by simp (disch := first | assumption | decide | omega) only [nI_lit, cT_lt, cF_lt, cT_le, cF_le, cT_eq, cF_eq, nF_le, mF_eq, mG_eq, mT_lt, eq_self, nI_clamp, nI_add, Nat.add_zero, nI_sub, s_i_ne, s_i_eq, s_i_2, s_l_1, s_l_ne, s_l_eq, s_p_ne, s_p_eq, s_p_2, s_q_1, s_q_ne, s_q_eq, u_ne, u_eq, v_ne, v_eq, w_ne, w_eq, jI_at_in, jL_at_in, false_or, or_false, true_or, or_true, true_and, and_true, false_and, and_false, not_true_eq_false, not_false_eq_true, ↓reduceIte, Option.bind_some, Option.map_some]) (fun j hj => by simp (disch := first | assumption | decide | omega) only [nI_lit, cT_lt, cF_lt, cT_le, cF_le, cT_eq, cF_eq, nF_le, mF_eq, mG_eq, mT_lt, eq_self, nI_clamp, nI_add, Nat.add_zero, nI_sub, s_i_ne, s_i_eq, s_i_2, s_l_1, s_l_ne, s_l_eq, s_p_ne, s_p_eq, s_p_2, s_q_1, s_q_ne, s_q_eq, u_ne, u_eq, v_ne, v_eq, w_ne, w_eq, jI_at_in, jL_at_in, false_or, or_false, true_or, or_true, true_and, and_true, false_and, and_false, not_true_eq_false, not_false_eq_true, ↓reduceIte, Option.bind_some, Option.map_some]) (fun r hr => ?_) rfl (by simp (disch := first | assumption | decide | omega) only [nI_lit, cT_lt, cF_lt, cT_le, cF_le, cT_eq, cF_eq, nF_le, mF_eq, mG_eq, mT_lt, eq_self, nI_clamp, nI_add, Nat.add_zero, nI_sub, s_i_ne, s_i_eq, s_i_2, s_l_1, s_l_ne, s_l_eq, s_p_ne, s_p_eq, s_p_2, s_q_1, s_q_ne, s_q_eq, u_ne, u_eq, v_ne, v_eq, w_ne, w_eq, jI_at_in, jL_at_in, false_or, or_false, true_or, or_true, true_and, and_true, false_and, and_false, not_true_eq_false, not_false_eq_true, ↓reduceIte, Option.bind_some, Option.map_some]) (fun j hj => by simp (disch := first | assumption | decide | omega) only [nI_lit, cT_lt, cF_lt, cT_le, cF_le, cT_eq, cF_eq, nF_le, mF_eq, mG_eq, mT_lt, eq_self, nI_clamp, nI_add, Nat.add_zero, nI_sub, s_i_ne, s_i_eq, s_i_2, s_l_1, s_l_ne, s_l_eq, s_p_ne, s_p_eq, s_p_2, s_q_1, s_q_ne, s_q_eq, u_ne, u_eq, v_ne, v_eq, w_ne, w_eq, jI_at_in, jL_at_in, false_or, or_false, true_or, or_true, true_and, and_true, false_and, and_false, not_true_eq_false, not_false_eq_true, ↓reduceIte, Option.bind_some, Option.map_some]) (by simp (disch := first | assumption | decide | omega) only [nI_lit, cT_lt, cF_lt, cT_le, cF_le, cT_eq, cF_eq, nF_le, mF_eq, mG_eq, mT_lt, eq_self, nI_clamp, nI_add, Nat.add_zero, nI_sub, s_i_ne, s_i_eq, s_i_2, s_l_1, s_l_ne, s_l_eq, s_p_ne, s_p_eq, s_p_2, s_q_1, s_q_ne, s_q_eq, u_ne, u_eq, v_ne, v_eq, w_ne, w_eq, jI_at_in, jL_at_in, false_or, or_false, true_or, or_true, true_and, and_true, false_and, and_false, not_true_eq_false, not_false_eq_true, ↓reduceIte, Option.bind_some, Option.map_some]) (by simp (disch := first | assumption | decide | omega) only [nI_lit, cT_lt, cF_lt, cT_le, cF_le, cT_eq, cF_eq, nF_le, mF_eq, mG_eq, mT_lt, eq_self, nI_clamp, nI_add, Nat.add_zero, nI_sub, s_i_ne, s_i_eq, s_i_2, s_l_1, s_l_ne, s_l_eq, s_p_ne, s_p_eq, s_p_2, s_q_1, s_q_ne, s_q_eq, u_ne, u_eq, v_ne, v_eq, w_ne, w_eq, jI_at_in, jL_at_in, false_or, or_false, true_or, or_true, true_and, and_true, false_and, and_false, not_true_eq_false, not_false_eq_true, ↓reduceIte, Option.bind_some, Option.map_some]), hma, hl⟩⟩
      · unfold p_cTyp_checkLocal_69 p_cTyp_checkLocal_88
        rw [q_require (by decide), Option.bind_some, jI_at_in (by omega) (by omega), c12]
        exact hloop
      · unfold p_r_checkName_54
        rw [if_neg (nI_in (show x < 3000 by omega) (by omega)), rtk _ σ1 σ2, Option.bind_some]
        dsimp only
        rw [nI_clamp (show x < 2 ^ 31 by omega), h119, if_neg (nI_nlt hma (by omega)), rleft, Option.bind_some]
        dsimp only
        rw [if_pos (by rw [hl]), if_neg n1, if_neg n1, h55', h119, nI_add]
        have e114 : (jx_i ρ 124 x (nI w)).1 114 x = (jx_i (jx_i ρ 124 x (nI w)) 106 55 (nI (q + m))).1 114 x := by rw [s_i_ne (k := 106) (by decide)]
        rw [e114]
        exact hra
      · simp only [List.mem_cons, List.not_mem_nil, or_false, not_or] at hr
        rw [s_i_ne hr.1, s_i_ne hr.2.2.1]
    · have hlw : ¬ nI (tyL tys m) = nI w := fun z => hl ((nI_eq (by have := hl3.2.1; omega) (by omega)).mp z)
      rw [if_pos hlw] at ccl
      refine ⟨_, _, ccl _ rfl, Or.inl ⟨hcn (0, _) ?_ (Or.inl rfl), fr37 (fun _ _ => rfl) rfl n8 n9 n10⟩⟩
      unfold p_r_checkName_54
      rw [if_neg (nI_in (show x < 3000 by omega) (by omega)), rtk _ σ1 σ2, Option.bind_some]
      dsimp only
      rw [nI_clamp (show x < 2 ^ 31 by omega), h119, if_neg (nI_nlt hma (by omega)), rleft, Option.bind_some]
      dsimp only
      rw [if_neg hlw]
      exact n7
  · rw [if_pos (nI_lt (by omega) (by omega))] at ccl
    refine ⟨_, _, ccl _ rfl, Or.inl ⟨hcn (0, _) ?_ (Or.inl rfl), fr37 (fun _ _ => rfl) rfl n8 n9 n10⟩⟩
    unfold p_r_checkName_54
    rw [if_neg (nI_in (show x < 3000 by omega) (by omega)), rtk _ σ1 σ2, Option.bind_some]
    dsimp only
    rw [nI_clamp (show x < 2 ^ 31 by omega), h119, if_pos (nI_lt (by omega) (by omega))]
    exact n7
