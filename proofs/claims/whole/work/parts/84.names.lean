/-! NAMES: those that come twice. -/
def ND (E : jEn) (F : Nat) (τ ρ : jx_S) (pp tk : Nat → Nat) (ptk : Nat → Nat → Nat) : Prop := ∀ g, g < F → (τ.1 41 g = nI (tk g) ∧ ρ.1 126 g = nI (tk g) ∧ tk g < eC E ∧ eK E (tk g) = 1 ∧ τ.1 43 g = nI (pp g) ∧ ρ.1 127 g = nI (pp g) ∧ pp g ≤ 8 ∧ ∀ j, j < pp g → (τ.1 55 (30 * g + j) = nI (ptk g j) ∧ ρ.1 134 (8 * g + j) = nI (ptk g j) ∧ ptk g j < eC E ∧ eK E (ptk g j) = 1 ∧ tk g < ptk g j ∧ (g + 1 < F → ptk g j < tk (g + 1)) ∧ ∀ j', j' < j → ptk g j' < ptk g j)) ∧ (g + 1 < F → tk g < tk (g + 1))
def parN (ρ : jx_S) (g : Nat) : Nat := (ρ.1 127 g).toNatClampNeg
def parT (ρ : jx_S) (g j : Nat) : Nat := (ρ.1 134 (8 * g + j)).toNatClampNeg
theorem ND_of {E : jEn} {G : jGh} {F N : Nat} {nS tS : Nat → Nat} {τ ρ : jx_S} (hE : eC E ≤ 1200) (h : TreeOK E G F N nS tS τ ρ) : ND E F τ ρ (parN ρ) tS (parT ρ) := by
  obtain ⟨h1, h2, h3, h4, h5, h6⟩ := h
  intro g hg
  obtain ⟨a1, a2, a3, p, b, l, ⟨⟨f1, f2, f3⟩, f4, f5⟩, k1, k2, k3, k4, k5, k6, k7, k8⟩ := h6 g hg
  have ep : parN ρ g = p := by unfold parN; rw [f2]; exact nI_clamp (by omega)
  refine ⟨⟨k1, k2, k3, k4, by rw [ep]; exact f1, by rw [ep]; exact f2, by rw [ep]; exact f4, fun j hj => ?_⟩, fun hg1 => k5⟩
  rw [ep] at hj
  obtain ⟨t, w1, w2, w3, w4, w5⟩ := f3 j hj
  have et : parT ρ g j = t := by unfold parT; rw [w2]; exact nI_clamp (by omega)
  obtain ⟨t', y1, y2, y3, y4⟩ := k8 j hj
  have : t' = t := (nI_eq (by omega) (by omega)).mp (y1.symm.trans w1)
  subst this
  rw [et]
  refine ⟨w1, w2, w3, w4, y2, fun _ => y3, fun j' hj' => ?_⟩
  obtain ⟨t2, v1, v2, v3, v4, v5⟩ := f3 j' (by omega)
  obtain ⟨t3, u1, u2⟩ := y4 j' hj'
  have : t3 = t2 := (nI_eq (by omega) (by omega)).mp (u1.symm.trans v1)
  subst this
  have e2 : parT ρ g j' = t3 := by unfold parT; rw [v2]; exact nI_clamp (by omega)
  rw [e2]
  exact u2
theorem eN_lt {E : jEn} (hE : EnvOK E) {k : Nat} (hk : k < eC E) (h1 : eK E k = 1) : eN E k < 2 ^ 63 := by
  obtain ⟨y1, y2, y3, y4, y5⟩ := hE.2.2.2.2.2.2.2 k hk h1
  have h1 := cdf_lt (fun j => lc (eT E (eP E k + j))) (eS E k) (fun j _ => lc_le _)
  have h2 : 37 ^ (eS E k) ≤ 37 ^ 12 := Nat.pow_le_pow_right (by omega) y2
  omega
theorem q_c_same {E : jEn} (hE : EnvOK E) {τ : jx_S} (hC : EnvC E τ) {s t : Nat} (hs : s < eC E) (ht : t < eC E) (ks : eK E s = 1) (kt : eK E t = 1) : v_cTyp_isSameName (nI s) (nI t) τ = if eN E s = eN E t then 1 else 0 := by
  have hE1 := hE.1
  have w1 := (hC s (by omega)).2.2 hs ks
  have w2 := (hC t (by omega)).2.2 ht kt
  have e1 : (lN (eN E s) = lN (eN E t)) = (eN E s = eN E t) := propext (pk_lEQ (eN_lt hE hs ks) (eN_lt hE ht kt))
  unfold v_cTyp_isSameName
  rw [jL_at_in (by omega) (by omega), jL_at_in (by omega) (by omega), w1, w2]
  by_cases h : eN E s = eN E t
  · rw [if_pos h, if_neg (by simp only [lg_eq, e1]; simp [h])]
  · rw [if_neg h, if_pos (by simp only [lg_eq, e1]; exact h)]
/-- a fault of this number that may be told -/
def St (n : Int32) (τ : jx_S) : Option Nat → jx_S
  | none => τ
  | some P => ctell τ n (nI P)
def ot (o : Option Nat) (P : Nat) : Option Nat := match o with
  | none => some P
  | some Q => some Q
def ol (o : Option Nat) : Int32 := match o with
  | none => -1
  | some Q => nI Q
theorem St_ne {n : Int32} {τ : jx_S} {o : Option Nat} {k : Nat} (hk : k ≠ 1) : (St n τ o).1 k = τ.1 k := by
  cases o with
  | none => rfl
  | some P => unfold St ctell; rw [s_i_ne hk, s_i_ne hk]
theorem St_2 {n : Int32} {τ : jx_S} {o : Option Nat} : (St n τ o).2 = τ.2 := by cases o <;> rfl
theorem St_env {E : jEn} {n : Int32} {τ : jx_S} {o : Option Nat} (h : EnvC E τ) : EnvC E (St n τ o) := EnvC_keep h (St_ne (by decide)) (St_ne (by decide)) (by rw [St_2])
theorem St_tell {E : jEn} (hE : EnvOK E) {n : Int32} (hn : n ≠ 0) {τ : jx_S} (hC : EnvC E τ) (h0 : τ.1 1 0 = 0) {o : Option Nat} {t : Nat} (ht : t < eC E) : p_cTyp_tell n (nI t) (St n τ o) = some (St n τ (ot o (eP E t))) := by
  have hE1 := hE.1
  unfold p_cTyp_tell
  rw [St_ne (by decide), jI_at_in (by omega) (by omega), (hC t (by omega)).2.1]
  cases o with
  | none =>
    show ((p_cFau_tell n (nI (eP E t)) τ).bind _) = _
    rw [q_c_tell τ n _ h0]
    rfl
  | some P =>
    unfold p_cFau_tell
    rw [if_pos (show ¬ (St n τ (some P)).1 1 0 = 0 by unfold St ctell; simp (disch := first | assumption | decide | omega) only [nI_lit, cT_lt, cF_lt, cT_le, cF_le, cT_eq, cF_eq, nF_le, mF_eq, mG_eq, mT_lt, eq_self, nI_clamp, nI_add, Nat.add_zero, nI_sub, s_i_ne, s_i_eq, s_i_2, s_l_1, s_l_ne, s_l_eq, s_p_ne, s_p_eq, s_p_2, s_q_1, s_q_ne, s_q_eq, u_ne, u_eq, v_ne, v_eq, w_ne, w_eq, jI_at_in, jL_at_in, false_or, or_false, true_or, or_true, true_and, and_true, false_and, and_false, not_true_eq_false, not_false_eq_true, ↓reduceIte, Option.bind_some, Option.map_some]; exact hn)]
    rfl
def oF (E : jEn) (tk : Nat → Nat) (f : Nat) (o : Option Nat) : Nat → Option Nat
  | 0 => o
  | g + 1 => if eN E (tk g) = eN E (tk f) then ot (oF E tk f o g) (eP E (tk f)) else oF E tk f o g
def oI (E : jEn) (pt : Nat → Nat) (o : Option Nat) : Nat → Option Nat
  | 0 => o
  | i + 1 => oF E pt i (oI E pt o i) i
def oo (E : jEn) (pp tk : Nat → Nat) (ptk : Nat → Nat → Nat) : Nat → Option Nat
  | 0 => none
  | f + 1 => oI E (ptk f) (oF E tk f (oo E pp tk ptk f) f) (pp f)
theorem ol_none {o : Option Nat} (h : ol o < 0) (hb : ∀ Q, o = some Q → Q < 2 ^ 31) : o = none := by
  cases o with
  | none => rfl
  | some Q => exact absurd h (nI_pos (hb Q rfl))
/-- the function's name against those before, the class -/
theorem c_nm {E : jEn} (hE : EnvOK E) {F : Nat} {τ ρ : jx_S} {pp tk : Nat → Nat} {ptk : Nat → Nat → Nat} (hC : EnvC E τ) (h0 : τ.1 1 0 = 0) (hD : ND E F τ ρ pp tk ptk) (hF : F ≤ 40) {f : Nat} (hf : f < F) (o : Option Nat) :
    p_cTyp_checkNames (nI f) (St 5 τ o) = p_cTyp_checkNames_60 (nI f) 0 (St 5 τ (oF E tk f o f)) := by
  unfold p_cTyp_checkNames p_cTyp_checkNames_2
  have hE1 := hE.1
  obtain ⟨⟨a1, a2, a3, a4, a5, a6, a7, a8⟩, _⟩ := hD f hf
  have key := jx_loop_for (f := fun s : Int32 × Int32 × jx_S => p_cTyp_checkNames_2_s s.1 s.2.1 (s.2.2)) (fun g => (nI f, nI g, St 5 τ (oF E tk f o g))) f (X := p_cTyp_checkNames_60 (nI f) 0 (St 5 τ (oF E tk f o f))) (n := 100000000) (by
    intro g hg
    obtain ⟨⟨b1, b2, b3, b4, _⟩, _⟩ := hD g (by omega)
    show p_cTyp_checkNames_2_s (nI f) (nI g) (St 5 τ (oF E tk f o g)) = _
    unfold p_cTyp_checkNames_2_s p_cTyp_checkNames_52
    rw [if_neg (nI_ge hg (by omega)), St_ne (by decide), jI_at_in (by omega) (by omega), jI_at_in (by omega) (by omega), a1, b1, q_c_same hE (St_env hC) b3 a3 b4 a4]
    rw [oF]
    by_cases hs : eN E (tk g) = eN E (tk f)
    · rw [if_pos hs, if_neg (by decide), St_tell hE (by decide) hC h0 a3, Option.bind_some, ← nI_succ, if_pos hs]
    · rw [if_neg hs, if_pos rfl, ← nI_succ, if_neg hs]) (by
    show p_cTyp_checkNames_2_s (nI f) (nI f) (St 5 τ (oF E tk f o f)) = _
    unfold p_cTyp_checkNames_2_s
    rw [if_pos (nI_le (Nat.le_refl f) (by omega))]) (by omega)
  exact key
/-- the same, the reference: how the least place goes on -/
theorem oF_le {E : jEn} {tk : Nat → Nat} {f : Nat} {o : Option Nat} : ∀ g, oF E tk f o g = o ∨ oF E tk f o g = ot o (eP E (tk f)) := by
  intro g
  induction g with
  | zero => left; rfl
  | succ g ih =>
    rw [oF]
    by_cases hs : eN E (tk g) = eN E (tk f)
    · rw [if_pos hs]
      right
      rcases ih with ih | ih
      · rw [ih]
      · rw [ih]; cases o <;> rfl
    · rw [if_neg hs]; exact ih
theorem r_nm {E : jEn} (hE : EnvOK E) {F : Nat} {τ ρ : jx_S} {pp tk : Nat → Nat} {ptk : Nat → Nat → Nat} (hR : EnvR E ρ) (hD : ND E F τ ρ pp tk ptk) (hF : F ≤ 40) {f : Nat} (hf : f < F) (o : Option Nat) (ho : ∀ Q, o = some Q → Q ≤ eP E (tk f)) (hp : eP E (tk f) < 2 ^ 31) :
    p_r_sameNames_17 (ol o) (nI f) 0 0 ρ = p_r_sameNames_91 (ol (oF E tk f o f)) (nI f) 0 ρ := by
  have hE1 := hE.1
  obtain ⟨⟨a1, a2, a3, a4, a5, a6, a7, a8⟩, _⟩ := hD f hf
  have hpl := (hR.2 (tk f) (by omega)).2.1
  -- whether one before is the same
  have tw : ∃ tw : Nat → Int32, tw 0 = 0 ∧ (∀ g, tw (g + 1) = tw g ||| (if eN E (tk f) = eN E (tk g) then 1 else 0)) := by
    refine ⟨fun n => Nat.rec 0 (fun g x => x ||| (if eN E (tk f) = eN E (tk g) then 1 else 0)) n, rfl, fun g => rfl⟩
  obtain ⟨tw, w0, w1⟩ := tw
  have htw : ∀ g, (tw g = 0 ∧ oF E tk f o g = o) ∨ (tw g = 1 ∧ oF E tk f o g = ot o (eP E (tk f))) := by
    intro g
    induction g with
    | zero => left; exact ⟨w0, rfl⟩
    | succ g ih =>
      rw [w1, oF]
      by_cases hs : eN E (tk f) = eN E (tk g)
      · rw [if_pos hs, if_pos hs.symm]
        right
        rcases ih with ⟨i1, i2⟩ | ⟨i1, i2⟩
        · rw [i1, i2]; exact ⟨by decide, rfl⟩
        · rw [i1, i2]; exact ⟨by decide, by cases o <;> rfl⟩
      · rw [if_neg hs, if_neg (fun q => hs q.symm)]
        rcases ih with ⟨i1, i2⟩ | ⟨i1, i2⟩
        · left; rw [i1]; exact ⟨by decide, i2⟩
        · right; rw [i1]; exact ⟨by decide, i2⟩
  unfold p_r_sameNames_17
  have key := jx_loop_for (f := fun s : Int32 × Int32 × Int32 × Int32 × jx_S => p_r_sameNames_17_s s.1 s.2.1 s.2.2.1 s.2.2.2.1 (s.2.2.2.2)) (fun g => (ol o, nI f, tw g, nI g, ρ)) f (X := p_r_sameNames_91 (ol (oF E tk f o f)) (nI f) 0 ρ) (n := 100000000) (by
    intro g hg
    obtain ⟨⟨b1, b2, b3, b4, _⟩, _⟩ := hD g (by omega)
    show p_r_sameNames_17_s (ol o) (nI f) (tw g) (nI g) ρ = _
    unfold p_r_sameNames_17_s
    rw [if_neg (nI_ge hg (by omega)), if_neg (nI_in (show f < 40 by omega) (by omega)), if_neg (nI_in (show g < 40 by omega) (by omega)), nI_clamp (show f < 2 ^ 31 by omega), nI_clamp (show g < 2 ^ 31 by omega), a2, b2, q_r_isSame E hE ρ hR (tk f) (tk g) a3 b3 a4 b4, Option.bind_some, ← nI_succ]
    dsimp only
    rw [w1]) (by
    show p_r_sameNames_17_s (ol o) (nI f) (tw f) (nI f) ρ = _
    unfold p_r_sameNames_17_s p_r_sameNames_86 p_r_sameNames_72 p_r_sameNames_87
    rw [if_pos (nI_le (Nat.le_refl f) (by omega)), if_neg (nI_in (show f < 40 by omega) (by omega)), nI_clamp (show f < 2 ^ 31 by omega), a2, if_neg (nI_in (show tk f < 1202 by omega) (by omega)), nI_clamp (show tk f < 2 ^ 31 by omega), hpl]
    rcases htw f with ⟨i1, i2⟩ | ⟨i1, i2⟩
    · rw [i1, i2, if_pos rfl]
    · rw [i1, i2, if_neg (by decide)]
      cases o with
      | none =>
        rw [if_pos (show ol none < 0 by decide)]
        rfl
      | some Q =>
        have hQ := ho Q rfl
        have n1 : ¬ (nI f < 0 ∨ 40 ≤ f) := fun q => by
          rcases q with q | q
          · exact nI_pos (by omega) q
          · omega
        have n2 : ¬ (nI (tk f) < 0 ∨ 1202 ≤ tk f) := fun q => by
          rcases q with q | q
          · exact nI_pos (by omega) q
          · omega
        rw [if_neg (show ¬ ol (some Q) < 0 from nI_pos (by omega)), if_pos (show ol (some Q) ≤ nI (eP E (tk f)) from nI_le hQ hp), if_neg n1, if_neg n2]
        rfl) (by omega)
  rw [w0] at key
  exact key
/-- the parameters, the class -/
theorem c_pm {E : jEn} (hE : EnvOK E) {F : Nat} {τ ρ : jx_S} {pp tk : Nat → Nat} {ptk : Nat → Nat → Nat} (hC : EnvC E τ) (h0 : τ.1 1 0 = 0) (hD : ND E F τ ρ pp tk ptk) (hF : F ≤ 40) {f : Nat} (hf : f < F) (o : Option Nat) :
    p_cTyp_checkNames_60 (nI f) 0 (St 5 τ o) = some (St 5 τ (oI E (ptk f) o (pp f))) := by
  have hE1 := hE.1
  obtain ⟨⟨a1, a2, a3, a4, a5, a6, a7, a8⟩, _⟩ := hD f hf
  unfold p_cTyp_checkNames_60
  have nm : ∀ (o : Option Nat) j, j < pp f → v_cFun_nameOf (nI f) (nI j) (St 5 τ o) = nI (ptk f j) := by
    intro o j hj
    unfold v_cFun_nameOf
    rw [St_ne (by decide), show nI f * (30 : Int32) = nI (f * 30) from nI_mul f 30, nI_add, jI_at_in (by omega) (by omega), show f * 30 + j = 30 * f + j by omega]
    exact (a8 j hj).1
  have key := jx_loop_for (f := fun s : Int32 × Int32 × jx_S => p_cTyp_checkNames_60_s s.1 s.2.1 (s.2.2)) (fun i => (nI f, nI i, St 5 τ (oI E (ptk f) o i))) (pp f) (X := some (St 5 τ (oI E (ptk f) o (pp f)))) (n := 100000000) (by
    intro i hi
    obtain ⟨b1, b2, b3, b4, _⟩ := a8 i hi
    show p_cTyp_checkNames_60_s (nI f) (nI i) (St 5 τ (oI E (ptk f) o i)) = _
    unfold p_cTyp_checkNames_60_s
    rw [St_ne (by decide), jI_at_in (by omega) (by omega), a5, if_neg (nI_ge hi (by omega))]
    unfold p_cTyp_checkNames_77
    have key := jx_loop_for (f := fun s : Int32 × Int32 × Int32 × jx_S => p_cTyp_checkNames_77_s s.1 s.2.1 s.2.2.1 (s.2.2.2)) (fun k => (nI f, nI i, nI k, St 5 τ (oF E (ptk f) i (oI E (ptk f) o i) k))) i (X := some (.inl (nI f, nI (i + 1), St 5 τ (oI E (ptk f) o (i + 1))))) (n := 100000000) (by
      intro k hk
      obtain ⟨c1, c2, c3, c4, _⟩ := a8 k (by omega)
      show p_cTyp_checkNames_77_s (nI f) (nI i) (nI k) (St 5 τ (oF E (ptk f) i (oI E (ptk f) o i) k)) = _
      unfold p_cTyp_checkNames_77_s p_cTyp_checkNames_121
      rw [if_neg (nI_ge hk (by omega)), nm _ k (by omega), nm _ i hi, q_c_same hE (St_env hC) c3 b3 c4 b4]
      rw [oF]
      by_cases hs : eN E (ptk f k) = eN E (ptk f i)
      · rw [if_pos hs, if_neg (by decide), St_tell hE (by decide) hC h0 b3, Option.bind_some, ← nI_succ, if_pos hs]
      · rw [if_neg hs, if_pos rfl, ← nI_succ, if_neg hs]) (by
      show p_cTyp_checkNames_77_s (nI f) (nI i) (nI i) (St 5 τ (oF E (ptk f) i (oI E (ptk f) o i) i)) = _
      unfold p_cTyp_checkNames_77_s
      rw [if_pos (nI_le (Nat.le_refl i) (by omega)), ← nI_succ]
      rfl) (by omega)
    exact key) (by
    show p_cTyp_checkNames_60_s (nI f) (nI (pp f)) (St 5 τ (oI E (ptk f) o (pp f))) = _
    unfold p_cTyp_checkNames_60_s
    rw [St_ne (by decide), jI_at_in (by omega) (by omega), a5, if_pos (nI_le (Nat.le_refl _) (by omega))]) (by omega)
  exact key
/-- the parameters, the reference -/
theorem r_pm {E : jEn} (hE : EnvOK E) {F : Nat} {τ ρ : jx_S} {pp tk : Nat → Nat} {ptk : Nat → Nat → Nat} (hR : EnvR E ρ) (hD : ND E F τ ρ pp tk ptk) (hF : F ≤ 40) {f : Nat} (hf : f < F) (o : Option Nat) (ho' : ∀ Q, o = some Q → ∃ t, t ≤ tk f ∧ Q = eP E t) :
    p_r_sameNames_91 (ol o) (nI f) 0 ρ = some (.inl (ol (oI E (ptk f) o (pp f)), nI (f + 1), ρ)) ∧ ∀ Q, oI E (ptk f) o (pp f) = some Q → ∃ t, t < eC E ∧ Q = eP E t ∧ (f + 1 < F → t < tk (f + 1)) := by
  have hE1 := hE.1
  obtain ⟨⟨a1, a2, a3, a4, a5, a6, a7, a8⟩, a9⟩ := hD f hf
  have inc : ∀ s t, s < t → t < eC E → eP E s < eP E t := hE.2.2.2.2.2.2.1
  have plt : ∀ t, t < eC E → eP E t < 4000 := fun t ht => by have := (hE.2.2.2.1 t ht).2.2; have := hE.2.1; omega
  have incl : ∀ s t, s ≤ t → t < eC E → eP E s ≤ eP E t := fun s t h1 h2 => by
    rcases Nat.lt_or_ge s t with q | q
    · have := inc s t q h2; omega
    · rw [show s = t by omega]
      exact Nat.le_refl _
  have ho : ∀ Q, o = some Q → Q ≤ eP E (tk f) := fun Q hQ => by
    obtain ⟨t, t1, t2⟩ := ho' Q hQ
    rw [t2]
    exact incl t (tk f) t1 a3
  -- what is told is told of a token up to this one
  have inv : ∀ i, i ≤ pp f → ∀ Q, oI E (ptk f) o i = some Q → (∃ Q0, o = some Q0 ∧ Q = Q0) ∨ ∃ j, j < i ∧ Q = eP E (ptk f j) := by
    intro i
    induction i with
    | zero => intro _ Q hQ; left; exact ⟨Q, hQ, rfl⟩
    | succ i ih =>
      intro hi Q hQ
      rw [oI] at hQ
      rcases oF_le (E := E) (tk := ptk f) (f := i) (o := oI E (ptk f) o i) i with q | q
      · rw [q] at hQ
        rcases ih (by omega) Q hQ with q2 | ⟨j, q2, q3⟩
        · left; exact q2
        · right; exact ⟨j, by omega, q3⟩
      · rw [q] at hQ
        cases hc : oI E (ptk f) o i with
        | none =>
          rw [hc] at hQ
          right
          exact ⟨i, by omega, (Option.some.inj hQ).symm⟩
        | some R =>
          rw [hc] at hQ
          have : R = Q := Option.some.inj hQ
          rw [this] at hc
          rcases ih (by omega) Q hc with q2 | ⟨j, q2, q3⟩
          · left; exact q2
          · right; exact ⟨j, by omega, q3⟩
  have bnd : ∀ i, i < pp f → ∀ Q, oI E (ptk f) o i = some Q → Q ≤ eP E (ptk f i) := by
    intro i hi Q hQ
    obtain ⟨b1, b2, b3, b4, b5, b6, b7⟩ := a8 i hi
    rcases inv i (by omega) Q hQ with ⟨Q0, q1, q2⟩ | ⟨j, q1, q2⟩
    · have h1 := ho Q0 q1
      have h2 := inc (tk f) (ptk f i) b5 b3
      omega
    · have h1 := b7 j q1
      have h2 := inc _ _ h1 b3
      omega
  refine ⟨?_, ?_⟩
  · unfold p_r_sameNames_91
    have key := jx_loop_for (f := fun s : Int32 × Int32 × Int32 × jx_S => p_r_sameNames_91_s s.1 s.2.1 s.2.2.1 (s.2.2.2)) (fun i => (ol (oI E (ptk f) o i), nI f, nI i, ρ)) (pp f) (X := some (.inl (ol (oI E (ptk f) o (pp f)), nI (f + 1), ρ))) (n := 100000000) (by
      intro i hi
      obtain ⟨b1, b2, b3, b4, b5, b6, b7⟩ := a8 i hi
      have hpl := (hR.2 (ptk f i) (by omega)).2.1
      have hp := plt _ b3
      show p_r_sameNames_91_s (ol (oI E (ptk f) o i)) (nI f) (nI i) ρ = _
      unfold p_r_sameNames_91_s
      rw [if_neg (nI_in (show f < 40 by omega) (by omega)), nI_clamp (show f < 2 ^ 31 by omega), a6, if_neg (nI_ge hi (by omega))]
      unfold p_r_sameNames_105
      have e8 : ∀ j, (8 : Int32) * nI f + nI j = nI (8 * f + j) := fun j => by rw [show (8 : Int32) = nI 8 from rfl, nI_mul, nI_add]
      have key := jx_loop_for (f := fun s : Int32 × Int32 × Int32 × Int32 × jx_S => p_r_sameNames_105_s s.1 s.2.1 s.2.2.1 s.2.2.2.1 (s.2.2.2.2)) (fun k => (ol (oF E (ptk f) i (oI E (ptk f) o i) k), nI f, nI i, nI k, ρ)) i (X := some (.inl (ol (oI E (ptk f) o (i + 1)), nI f, nI (i + 1), ρ))) (n := 100000000) (by
        intro k hk
        obtain ⟨c1, c2, c3, c4, _⟩ := a8 k (by omega)
        show p_r_sameNames_105_s (ol (oF E (ptk f) i (oI E (ptk f) o i) k)) (nI f) (nI i) (nI k) ρ = _
        unfold p_r_sameNames_105_s p_r_sameNames_181 p_r_sameNames_176 p_r_sameNames_182
        rw [if_neg (nI_ge hk (by omega)), e8, e8, if_neg (nI_in (show 8 * f + i < 320 by omega) (by omega)), nI_clamp (show 8 * f + i < 2 ^ 31 by omega), b2, if_neg (nI_in (show ptk f i < 1202 by omega) (by omega)), if_neg (nI_in (show 8 * f + k < 320 by omega) (by omega)), nI_clamp (show 8 * f + k < 2 ^ 31 by omega), c2, nI_clamp (show ptk f i < 2 ^ 31 by omega), hpl, q_r_isSame E hE ρ hR (ptk f i) (ptk f k) b3 c3 b4 c4, Option.bind_some, ← nI_succ]
        have n1 : ¬ (nI (8 * f + i) < 0 ∨ 320 ≤ 8 * f + i) := fun q => by
          rcases q with q | q
          · exact nI_pos (by omega) q
          · omega
        rw [if_neg n1]
        dsimp only
        rw [oF]
        by_cases hs : eN E (ptk f i) = eN E (ptk f k)
        · rw [if_pos hs, if_neg (by decide), if_pos hs.symm]
          cases hc : oF E (ptk f) i (oI E (ptk f) o i) k with
          | none => rfl
          | some Q =>
            have hQ : Q ≤ eP E (ptk f i) := by
              rcases oF_le (E := E) (tk := ptk f) (f := i) (o := oI E (ptk f) o i) k with q | q
              · rw [q] at hc; exact bnd i hi Q hc
              · rw [q] at hc
                cases hd : oI E (ptk f) o i with
                | none => rw [hd] at hc; have := Option.some.inj hc; omega
                | some R => rw [hd] at hc; have : R = Q := Option.some.inj hc; rw [this] at hd; exact bnd i hi Q hd
            rw [if_neg (show ¬ ol (some Q) < 0 from nI_pos (by omega)), if_pos (show ol (some Q) ≤ nI (eP E (ptk f i)) from nI_le hQ (by omega))]
            rfl
        · rw [if_neg hs, if_pos rfl, if_neg (fun q => hs q.symm)]) (by
        show p_r_sameNames_105_s (ol (oF E (ptk f) i (oI E (ptk f) o i) i)) (nI f) (nI i) (nI i) ρ = _
        unfold p_r_sameNames_105_s
        rw [if_pos (nI_le (Nat.le_refl i) (by omega)), ← nI_succ]
        rfl) (by omega)
      exact key) (by
      show p_r_sameNames_91_s (ol (oI E (ptk f) o (pp f))) (nI f) (nI (pp f)) ρ = _
      unfold p_r_sameNames_91_s
      rw [if_neg (nI_in (show f < 40 by omega) (by omega)), nI_clamp (show f < 2 ^ 31 by omega), a6, if_pos (nI_le (Nat.le_refl _) (by omega)), ← nI_succ]) (by omega)
    exact key
  · intro Q hQ
    rcases inv (pp f) (Nat.le_refl _) Q hQ with ⟨Q0, q1, q2⟩ | ⟨j, q1, q2⟩
    · obtain ⟨t, t1, t2⟩ := ho' Q0 q1
      exact ⟨t, by omega, by rw [q2]; exact t2, fun h => by have := a9 h; omega⟩
    · obtain ⟨b1, b2, b3, b4, b5, b6, b7⟩ := a8 j q1
      exact ⟨ptk f j, b3, q2, b6⟩
theorem names_all {E : jEn} (hE : EnvOK E) {F : Nat} {τ ρ : jx_S} {pp tk : Nat → Nat} {ptk : Nat → Nat → Nat} (hC : EnvC E τ) (hR : EnvR E ρ) (h0 : τ.1 1 0 = 0) (h4 : ρ.1 106 4 = 0) (hD : ND E F τ ρ pp tk ptk) (hF : F ≤ 40) (h10 : τ.1 4 10 = nI F) (h38 : ρ.1 106 38 = nI F) :
    ∃ o, p_cTyp_check τ = p_cTyp_check_37 0 (St 5 τ o) ∧ p_r_sameNames ρ = some (match o with
      | none => (1, ρ)
      | some P => (0, rtell ρ 5 (nI P))) := by
  have hE1 := hE.1
  have plt : ∀ t, t < eC E → eP E t < 4000 := fun t ht => by have := (hE.2.2.2.1 t ht).2.2; have := hE.2.1; omega
  have inc : ∀ s t, s ≤ t → t < eC E → eP E s ≤ eP E t := fun s t h1 h2 => by
    rcases Nat.lt_or_ge s t with q | q
    · have := hE.2.2.2.2.2.2.1 s t q h2; omega
    · rw [show s = t by omega]
      exact Nat.le_refl _
  refine ⟨oo E pp tk ptk F, ?_, ?_⟩
  · unfold p_cTyp_check
    rw [show v_cFau_isTold τ = 0 from if_pos h0, if_pos rfl]
    unfold p_cTyp_check_13
    have key := jx_loop_for (f := fun s : Int32 × jx_S => p_cTyp_check_13_s s.1 (s.2)) (fun f => (nI f, St 5 τ (oo E pp tk ptk f))) F (X := p_cTyp_check_37 0 (St 5 τ (oo E pp tk ptk F))) (n := 100000000) (by
      intro f hf
      show p_cTyp_check_13_s (nI f) (St 5 τ (oo E pp tk ptk f)) = _
      unfold p_cTyp_check_13_s
      rw [St_ne (by decide), h10, if_neg (nI_ge hf (by omega)), c_nm hE hC h0 hD hF hf, c_pm hE hC h0 hD hF hf, Option.bind_some, ← nI_succ]
      rfl) (by
      show p_cTyp_check_13_s (nI F) (St 5 τ (oo E pp tk ptk F)) = _
      unfold p_cTyp_check_13_s
      rw [St_ne (by decide), h10, if_pos (nI_le (Nat.le_refl _) (by omega))]) (by omega)
    exact key
  · have inv : ∀ f, f ≤ F → ∀ Q, oo E pp tk ptk f = some Q → ∃ t, t < eC E ∧ Q = eP E t ∧ (f < F → t < tk f) := by
      intro f
      induction f with
      | zero => intro _ Q hQ; cases hQ
      | succ f ih =>
        intro hf Q hQ
        obtain ⟨⟨a1, a2, a3, _⟩, _⟩ := hD f (by omega)
        refine (r_pm hE hR hD hF (show f < F by omega) (oF E tk f (oo E pp tk ptk f) f) (fun R hR' => ?_)).2 Q hQ
        rcases oF_le (E := E) (tk := tk) (f := f) (o := oo E pp tk ptk f) f with q | q
        · rw [q] at hR'
          obtain ⟨t, t1, t2, t3⟩ := ih (by omega) R hR'
          exact ⟨t, by have := t3 (by omega); omega, t2⟩
        · rw [q] at hR'
          cases hc : oo E pp tk ptk f with
          | none => rw [hc] at hR'; exact ⟨tk f, Nat.le_refl _, (Option.some.inj hR').symm⟩
          | some S =>
            rw [hc] at hR'
            have : S = R := Option.some.inj hR'
            rw [this] at hc
            obtain ⟨t, t1, t2, t3⟩ := ih (by omega) R hc
            exact ⟨t, by have := t3 (by omega); omega, t2⟩
    unfold p_r_sameNames p_r_sameNames_4
    have key := jx_loop_for (f := fun s : Int32 × Int32 × jx_S => p_r_sameNames_4_s s.1 s.2.1 (s.2.2)) (fun f => (ol (oo E pp tk ptk f), nI f, ρ)) F (X := some (match oo E pp tk ptk F with
      | none => (1, ρ)
      | some P => (0, rtell ρ 5 (nI P)))) (n := 100000000) (by
      intro f hf
      obtain ⟨⟨a1, a2, a3, _⟩, _⟩ := hD f hf
      show p_r_sameNames_4_s (ol (oo E pp tk ptk f)) (nI f) ρ = _
      unfold p_r_sameNames_4_s
      have ho : ∀ Q, oo E pp tk ptk f = some Q → ∃ t, t ≤ tk f ∧ Q = eP E t := fun Q hQ => by
        obtain ⟨t, t1, t2, t3⟩ := inv f (by omega) Q hQ
        exact ⟨t, by have := t3 hf; omega, t2⟩
      rw [h38, if_neg (nI_ge hf (by omega)), r_nm hE hR hD hF hf _ (fun Q hQ => by
        obtain ⟨t, t1, t2⟩ := ho Q hQ
        rw [t2]
        exact inc t (tk f) t1 a3) (by have := plt (tk f) a3; omega)]
      exact (r_pm hE hR hD hF hf _ (fun R hR' => by
        rcases oF_le (E := E) (tk := tk) (f := f) (o := oo E pp tk ptk f) f with q | q
        · rw [q] at hR'; exact ho R hR'
        · rw [q] at hR'
          cases hc : oo E pp tk ptk f with
          | none => rw [hc] at hR'; exact ⟨tk f, Nat.le_refl _, (Option.some.inj hR').symm⟩
          | some S =>
            rw [hc] at hR'
            have : S = R := Option.some.inj hR'
            rw [this] at hc
            exact ho R hc)).1) (by
      show p_r_sameNames_4_s (ol (oo E pp tk ptk F)) (nI F) ρ = _
      unfold p_r_sameNames_4_s
      rw [h38, if_pos (nI_le (Nat.le_refl _) (by omega))]
      cases hc : oo E pp tk ptk F with
      | none => rfl
      | some P =>
        obtain ⟨t, t1, t2, t3⟩ := inv F (Nat.le_refl _) P hc
        have := plt t t1
        rw [if_neg (show ¬ ol (some P) < 0 from nI_pos (by omega)), q_r_fails ρ 5 _ h4]
        rfl) (by omega)
    exact key
