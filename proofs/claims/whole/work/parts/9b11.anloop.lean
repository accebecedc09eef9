/-! ANALYSIS, 11: nodes one after another, in the class. -/
theorem loop_inv {α β : Type} {f : α → Option (α ⊕ β)} (I : Nat → α → Prop) : ∀ m, (∀ i s, i < m → I i s → ∃ s1, f s = some (.inl s1) ∧ I (i + 1) s1) → ∀ s, I 0 s → ∃ s1, I m s1 ∧ ∀ n, jx_loop (n + m) f s = jx_loop n f s1 := by
  intro m
  induction m with
  | zero => intro _ s h; exact ⟨s, h, fun _ => rfl⟩
  | succ m ih =>
    intro hs s h
    obtain ⟨s1, h1, e1⟩ := ih (fun i s hi => hs i s (by omega)) s h
    obtain ⟨s2, e2, h2⟩ := hs m s1 (by omega) h1
    refine ⟨s2, h2, fun n => ?_⟩
    rw [show n + (m + 1) = (n + 1) + m by omega, e1, jx_loop_inl e2]
theorem loop_invx {α β : Type} {f : α → Option (α ⊕ β)} (I : Nat → α → Prop) (m : Nat) (hs : ∀ i s, i < m → I i s → ∃ s1, f s = some (.inl s1) ∧ I (i + 1) s1) {s : α} (h : I 0 s) {X : α → Option β} (hx : ∀ s, I m s → f s = (X s).map Sum.inr) {n : Nat} (hn : m < n) : ∃ s1, I m s1 ∧ jx_loop n f s = X s1 := by
  obtain ⟨s1, h1, e1⟩ := loop_inv I m hs s h
  refine ⟨s1, h1, ?_⟩
  rw [show n = (n - m - 1 + 1) + m by omega, e1, jx_loop_out (hx s1 h1)]
def KQ (L : List Nat) (o : Nat) (fs : List Nat) (σ σ' : jx_S) : Prop := (∀ r, r ∉ L → r ≠ o → σ'.1 r = σ.1 r) ∧ (∀ j, j ∉ fs → σ'.1 o j = σ.1 o j) ∧ σ'.2 = σ.2
theorem KQ_refl {L fs : List Nat} {o : Nat} {σ : jx_S} : KQ L o fs σ σ := ⟨fun _ _ _ => rfl, fun _ _ => rfl, rfl⟩
theorem KQ_trans {L fs : List Nat} {o : Nat} {σ σ1 σ2 : jx_S} (h : KQ L o fs σ σ1) (k : KQ L o fs σ1 σ2) : KQ L o fs σ σ2 := ⟨fun r a b => (k.1 r a b).trans (h.1 r a b), fun j a => (k.2.1 j a).trans (h.2.1 j a), k.2.2.trans h.2.2⟩
theorem KQ_mono {L fs L' fs' : List Nat} {o : Nat} {σ σ1 : jx_S} (h : KQ L o fs σ σ1) (h1 : ∀ r, r ∈ L → r ∈ L') (h2 : ∀ j, j ∈ fs → j ∈ fs') : KQ L' o fs' σ σ1 := ⟨fun r a b => h.1 r (fun z => a (h1 r z)) b, fun j a => h.2.1 j (fun z => a (h2 j z)), h.2.2⟩
theorem KQ_p {L fs : List Nat} {o n r : Nat} {σ : jx_S} {i v : Int32} (hr : r ∈ L) (ho : r ≠ o) : KQ L o fs σ (jI_put n σ r i v) := ⟨fun q a b => s_p_ne (fun z => a (z ▸ hr)), fun j a => by rw [s_p_ne (Ne.symm ho)], rfl⟩
theorem KQ_i {L fs : List Nat} {o r j : Nat} {σ : jx_S} {v : Int32} (hr : r ∈ L) (ho : r ≠ o) : KQ L o fs σ (jx_i σ r j v) := ⟨fun q a b => s_i_ne (fun z => a (z ▸ hr)), fun j a => by rw [s_i_ne (Ne.symm ho)], rfl⟩
theorem KQ_f {L fs : List Nat} {o j : Nat} {σ : jx_S} {v : Int32} (hj : j ∈ fs) : KQ L o fs σ (jx_i σ o j v) := ⟨fun q a b => s_i_ne b, fun q a => by rw [s_i_eq, u_ne (fun z : q = j => a (z.symm ▸ hj))], rfl⟩
theorem KQ_same {L fs M : List Nat} {o : Nat} {σ σ' : jx_S} (h : KQ L o fs σ σ') (h1 : ∀ r, r ∈ M → r ∉ L ∧ r ≠ o) : same M σ σ' := fun r hr => h.1 r (h1 r hr).1 (h1 r hr).2
/-- the class's rows that analysis writes: 63 65 67 69 -/
def aCL : List Nat := [63, 65, 67, 69, 59, 39]
def aRL : List Nat := [146, 147, 148, 149, 136, 125]
theorem AP_c {E : jEn} {F : Nat} {nS pN lN' : Nat → Nat} {ty : Nat → Nat → Nat} {W : Nat → Nat} {D : Nat → jDs} {tk : Nat → Nat} {τ ρ τ' : jx_S} (h : AP E F nS pN lN' ty W D tk τ ρ) (k : KQ aCL 7 [6] τ τ') : AP E F nS pN lN' ty W D tk τ' ρ := AP_keep h (KQ_same k (by decide)) (fun _ _ => rfl) rfl rfl
theorem AP_r {E : jEn} {F : Nat} {nS pN lN' : Nat → Nat} {ty : Nat → Nat → Nat} {W : Nat → Nat} {D : Nat → jDs} {tk : Nat → Nat} {τ ρ ρ' : jx_S} (h : AP E F nS pN lN' ty W D tk τ ρ) (k : KQ aRL 106 [56, 39] ρ ρ') : AP E F nS pN lN' ty W D tk τ ρ' := AP_keep h (fun _ _ => rfl) (KQ_same k (by decide)) (k.2.1 38 (by decide)) (k.2.1 25 (by decide))
theorem CV_keep {F : Nat} {pN : Nat → Nat} {ty V : Nat → Nat → Nat} {τ τ' : jx_S} (h : CV F pN ty V τ) (k1 : τ'.1 63 = τ.1 63) (k2 : τ'.1 7 6 = τ.1 7 6) : CV F pN ty V τ' := by
  unfold CV v_cAna_pointOfCase at *
  rw [k1, k2]; exact h
theorem RngD_of {E : jEn} {F : Nat} {nS pN lN' : Nat → Nat} {ty : Nat → Nat → Nat} {W : Nat → Nat} {D : Nat → jDs} {tk : Nat → Nat} {τ ρ : jx_S} {f a n : Nat} (hP : AP E F nS pN lN' ty W D tk τ ρ) (hf : f < F) (ha : nS f ≤ a) (hn : a + n ≤ nS (f + 1)) (hR : ∀ k, a ≤ k → k < a + n → ∀ i, i < dM (D k) → a ≤ dC (D k) i) : RngD F pN lN' ty f W D a n := fun k k1 k2 => ⟨((hP.2.2.2.2 f hf).2.1 k (by omega) (by omega)).2.1, hR k k1 k2⟩
theorem ev_bnd {E : jEn} {F : Nat} {nS pN lN' : Nat → Nat} {ty : Nat → Nat → Nat} {W : Nat → Nat} {D : Nat → jDs} {tk : Nat → Nat} {τ ρ : jx_S} {V : Nat → Nat → Nat} {f a n : Nat} {q : (Nat → Nat) × (Nat → Nat)} (hP : AP E F nS pN lN' ty W D tk τ ρ) (hf : f < F) (ha : nS f ≤ a) (hn : a + n ≤ nS (f + 1)) (hR : ∀ k, a ≤ k → k < a + n → ∀ i, i < dM (D k) → a ≤ dC (D k) i) (hL : LeV F pN ty V V) (hl : ∀ s, s < lN' f → q.2 s < tyQ (ty f s)) : (∀ j, a ≤ j → j < a + n → (ev pN ty f V D a q n).1 j < tyQ (W j)) ∧ ∀ s, s < lN' f → (ev pN ty f V D a q n).2 s < tyQ (ty f s) := by
  have h := ev_le (q := q) (q' := q) hL (fun s hs => leQ_refl (hl s hs)) n (RngD_of hP hf ha hn hR)
  exact ⟨fun j j1 j2 => (h.1 j j1 j2).1, fun s hs => (h.2 s hs).1⟩
/-- what the class holds after i nodes -/
def CB (pN lN' : Nat → Nat) (ty : Nat → Nat → Nat) (f : Nat) (V : Nat → Nat → Nat) (D : Nat → jDs) (a : Nat) (q : (Nat → Nat) × (Nat → Nat)) (X : Nat) (τ : jx_S) (i : Nat) (s : Int32 × Int32 × Int32 × jx_S) : Prop := ∃ τ', s = (nI f, nI X, nI (a + i + 1), τ') ∧ KQ [67, 69] 7 [] τ τ' ∧ (∀ j, a ≤ j → j < a + i → τ'.1 67 (j + 1) = nI ((ev pN ty f V D a q i).1 j)) ∧ ∀ s, s < lN' f → τ'.1 69 s = nI ((ev pN ty f V D a q i).2 s)
theorem c_bstep {E : jEn} {F : Nat} {nS pN lN' : Nat → Nat} {ty : Nat → Nat → Nat} {W : Nat → Nat} {D : Nat → jDs} {tk : Nat → Nat} {τ ρ : jx_S} {V : Nat → Nat → Nat} {f a i X : Nat} {q : (Nat → Nat) × (Nat → Nat)} (hP : AP E F nS pN lN' ty W D tk τ ρ) (hf : f < F) (ha : nS f ≤ a) (hn : a + i < nS (f + 1)) (hR : ∀ k, a ≤ k → k < a + (i + 1) → ∀ i, i < dM (D k) → a ≤ dC (D k) i) (hV : CV F pN ty V τ) (hL : LeV F pN ty V V) (hl : ∀ s, s < lN' f → q.2 s < tyQ (ty f s)) (hX : a + i + 1 ≤ X) (hX2 : X ≤ 1200) {s : Int32 × Int32 × Int32 × jx_S} (h : CB pN lN' ty f V D a q X τ i s) : ∃ s1, p_cAna_pointBetween_3_s s.1 s.2.1 s.2.2.1 s.2.2.2 = some (.inl s1) ∧ CB pN lN' ty f V D a q X τ (i + 1) s1 := by
  obtain ⟨τ', rfl, hk, h67, h69⟩ := h
  have hP' : AP E F nS pN lN' ty W D tk τ' ρ := AP_c hP (KQ_mono hk (by decide) (by decide))
  obtain ⟨hb1, hb2⟩ := ev_bnd (q := q) (n := i) hP hf ha (by omega) (fun k k1 k2 => hR k k1 (by omega)) hL hl
  have hV' : CV F pN ty V τ' := CV_keep hV (hk.1 63 (by decide) (by decide)) (hk.2.1 6 (by decide))
  have hCS : CS F pN lN' ty V f τ' (ev pN ty f V D a q i).2 := ⟨hV', h69, fun g hg => by
    obtain ⟨_, _, c, _, d⟩ := hP'.2.2.2.2 g hg
    exact ⟨c.1, d.1, d.2.1, d.2.2.1, fun i hi => ⟨d.2.2.2.2 i hi, c.2.2.2.2.2 i hi⟩⟩⟩
  obtain ⟨hA, hok, _, _⟩ := (hP'.2.2.2.2 f hf).2.1 (a + i) (by omega) hn
  have e := c_pointOf (W := W) (bN := pN) (pt := (ev pN ty f V D a q i).1) hP.1 hf hA hok hCS hL (fun j hj => by
    have := hok.1 j hj
    have := hR (a + i) (by omega) (by omega) j hj
    exact ⟨h67 _ this (by omega), hb1 _ this (by omega)⟩) hb2
  have hbd0 := hA.2.2.2.2.2.2.2.2.2.2.2.2.2.2.2.2.2.2.2.2.2
  have hbd := hbd0.2
  have hev : ev pN ty f V D a q (i + 1) = evS pN ty f V D (a + i) (ev pN ty f V D a q i) := rfl
  unfold evS at hev
  have hdB : dB (D (a + i)) ≤ 30 := hbd.1
  have hbB : dB (D (a + i)) = 0 ∨ dB (D (a + i)) - 1 < lN' f := by
    rcases hok.2.1 with z | z
    · exact Or.inl z
    · exact Or.inr z.1
  have hl30 := (hP.2.2.2.2 f hf).2.2.2.2.2.2.1
  generalize hv : ptN pN ty f V (D (a + i)) (ev pN ty f V D a q i).1 (ev pN ty f V D a q i).2 = v at *
  generalize hE : ev pN ty f V D a q i = e0 at *
  have h122 := hbd0.1
  have hbound : v_cTre_boundBy (nI (a + i + 1)) (jI_put 1201 τ' 67 (nI (a + i + 1)) (nI v)) = if dB (D (a + i)) = 0 then -1 else nI (dB (D (a + i)) - 1) := by
    refine Eq.trans ?_ (hbd.2.trans h122)
    unfold v_cTre_boundBy
    rw [s_p_ne (by decide), s_p_ne (by decide), s_p_ne (by decide), s_p_ne (by decide)]
  show ∃ s1, p_cAna_pointBetween_3_s (nI f) (nI X) (nI (a + i + 1)) τ' = some (.inl s1) ∧ _
  unfold p_cAna_pointBetween_3_s p_cAna_pointBetween_60
  rw [if_neg (nI_nlt (by omega) (by omega)), e, Option.bind_some]
  show ∃ s1, (if v_cTre_boundBy (nI (a + i + 1)) (jI_put 1201 τ' 67 (nI (a + i + 1)) (nI v)) = -1 then _ else _) = _ ∧ _
  rw [hbound]
  unfold CB
  rw [hev]
  by_cases z : dB (D (a + i)) = 0
  · rw [if_pos z, if_pos rfl]
    refine ⟨_, rfl, _, by rw [← nI_succ]; rfl, KQ_trans hk (KQ_p (by decide) (by decide)), fun j j1 j2 => ?_, fun s hs => ?_⟩
    · rw [s_p_eq, jI_up_in (by omega) (by omega)]
      show _ = nI (if j = a + i then v else e0.1 j)
      by_cases y : j = a + i
      · rw [if_pos y, u_eq (by omega)]
      · rw [if_neg y, u_ne (by omega)]; exact h67 j j1 (by omega)
    · rw [s_p_ne (by decide)]
      show _ = nI (if dB (D (a + i)) = s + 1 then v else e0.2 s)
      rw [if_neg (by omega)]; exact h69 s hs
  · rw [if_neg z, if_neg (nI_ne_m1 (by omega))]
    refine ⟨_, rfl, _, by rw [← nI_succ]; rfl, KQ_trans hk (KQ_trans (KQ_p (by decide) (by decide)) (KQ_p (by decide) (by decide))), fun j j1 j2 => ?_, fun s hs => ?_⟩
    · rw [s_p_ne (by decide), s_p_eq, jI_up_in (by omega) (by omega)]
      show _ = nI (if j = a + i then v else e0.1 j)
      by_cases y : j = a + i
      · rw [if_pos y, u_eq (by omega)]
      · rw [if_neg y, u_ne (by omega)]; exact h67 j j1 (by omega)
    · rw [s_p_eq, s_p_ne (by decide), jI_up_in (by omega) (by omega)]
      show _ = nI (if dB (D (a + i)) = s + 1 then v else e0.2 s)
      by_cases y : dB (D (a + i)) = s + 1
      · rw [if_pos y, u_eq (by omega)]
        show jI_at 1201 (jI_up 1201 (τ'.1 67) (nI (a + i + 1)) (nI v)) (nI (a + i + 1)) = _
        rw [jI_at_in (by omega) (by omega), jI_up_in (by omega) (by omega), u_eq rfl]
      · rw [if_neg y, u_ne (by omega)]; exact h69 s hs
theorem c_between {E : jEn} {F : Nat} {nS pN lN' : Nat → Nat} {ty : Nat → Nat → Nat} {W : Nat → Nat} {D : Nat → jDs} {tk : Nat → Nat} {τ ρ : jx_S} {V : Nat → Nat → Nat} {f a n : Nat} {q : (Nat → Nat) × (Nat → Nat)} (hP : AP E F nS pN lN' ty W D tk τ ρ) (hf : f < F) (ha : nS f ≤ a) (hn0 : 0 < n) (hn : a + n ≤ nS (f + 1)) (hR : ∀ k, a ≤ k → k < a + n → ∀ i, i < dM (D k) → a ≤ dC (D k) i) (hV : CV F pN ty V τ) (hL : LeV F pN ty V V) (h69 : ∀ s, s < lN' f → τ.1 69 s = nI (q.2 s)) (hl : ∀ s, s < lN' f → q.2 s < tyQ (ty f s)) : ∃ τ', p_cAna_pointBetween (nI f) (nI (a + 1)) (nI (a + n)) τ = some (nI ((ev pN ty f V D a q n).1 (a + n - 1)), τ') ∧ KQ [67, 69] 7 [] τ τ' := by
  have h1200 := (hP.2.2.2.2 f hf).1.2.1
  unfold p_cAna_pointBetween p_cAna_pointBetween_3
  obtain ⟨s1, ⟨τ', rfl, hk, h67, _⟩, e⟩ := loop_invx (f := fun s : Int32 × Int32 × Int32 × jx_S => p_cAna_pointBetween_3_s s.1 s.2.1 s.2.2.1 s.2.2.2) (CB pN lN' ty f V D a q (a + n) τ) n (fun i s hi h => c_bstep hP hf ha (by omega) (fun k k1 k2 => hR k k1 (by omega)) hV hL hl (by omega) (by omega) h) (s := (nI f, nI (a + n), nI (a + 1), τ)) ⟨τ, rfl, KQ_refl, fun j j1 j2 => by omega, h69⟩ (X := fun s => some (jI_at 1201 (s.2.2.2.1 67) s.2.1, s.2.2.2)) (fun s hs => by
    obtain ⟨τ', rfl, hk, h67, _⟩ := hs
    show p_cAna_pointBetween_3_s (nI f) (nI (a + n)) (nI (a + n + 1)) τ' = _
    unfold p_cAna_pointBetween_3_s
    rw [if_pos (nI_lt (by omega) (by omega))]) (n := 100000000) (by omega)
  refine ⟨τ', e.trans ?_, hk⟩
  show some (jI_at 1201 (τ'.1 67) (nI (a + n)), τ') = _
  rw [jI_at_in (by omega) (by omega)]
  have := h67 (a + n - 1) (by omega) (by omega)
  rw [show a + n - 1 + 1 = a + n by omega] at this
  rw [this]
