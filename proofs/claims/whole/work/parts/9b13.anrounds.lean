/-! ANALYSIS, 13: the values round by round: what is meant. -/
def dig (t : Nat → Nat) : Nat → Nat → Nat → Nat
  | 0, _, _ => 0
  | p + 1, c, i => if i = p then c % tyQ (t p) else dig t p (c / tyQ (t p)) i
theorem nm_dig {t : Nat → Nat} : ∀ p c, c < cnt t p → nm t (dig t p c) p = c := by
  intro p
  induction p with
  | zero => intro c hc; have : c < 1 := hc; show 0 = c; omega
  | succ p ih =>
    intro c hc
    have hq := (tyQ_le (t p)).2
    have hc' : c < cnt t p * tyQ (t p) := hc
    have h1 := ih (c / tyQ (t p)) (Nat.div_lt_of_lt_mul (by rw [Nat.mul_comm]; exact hc'))
    show nm t (dig t (p + 1) c) p * tyQ (t p) + dig t (p + 1) c p = c
    have e1 : nm t (dig t (p + 1) c) p = nm t (dig t p (c / tyQ (t p))) p := nm_congr p (fun i hi => show dig t (p + 1) c i = _ from if_neg (show ¬ i = p by omega))
    rw [e1, h1, show dig t (p + 1) c p = c % tyQ (t p) from if_pos rfl, Nat.mul_comm]
    exact Nat.div_add_mod _ _
theorem dig_nm {t a : Nat → Nat} : ∀ p, (∀ i, i < p → a i < tyQ (t i)) → ∀ i, i < p → dig t p (nm t a p) i = a i := by
  intro p
  induction p with
  | zero => intro _ i hi; omega
  | succ p ih =>
    intro h i hi
    have hq := (tyQ_le (t p)).2
    have ha := h p (by omega)
    show (if i = p then (nm t a p * tyQ (t p) + a p) % tyQ (t p) else dig t p ((nm t a p * tyQ (t p) + a p) / tyQ (t p)) i) = a i
    have e1 : (nm t a p * tyQ (t p) + a p) / tyQ (t p) = nm t a p := by
      rw [Nat.mul_comm, Nat.mul_add_div (by omega), Nat.div_eq_of_lt ha, Nat.add_zero]
    have e2 : (nm t a p * tyQ (t p) + a p) % tyQ (t p) = a p := by
      rw [Nat.mul_comm, Nat.mul_add_mod, Nat.mod_eq_of_lt ha]
    rw [e1, e2]
    by_cases z : i = p
    · rw [if_pos z, z]
    · rw [if_neg z]; exact ih (fun j hj => h j (by omega)) i (by omega)
theorem dig_lt {t : Nat → Nat} : ∀ p c i, i < p → dig t p c i < tyQ (t i) := by
  intro p
  induction p with
  | zero => intro c i hi; omega
  | succ p ih =>
    intro c i hi
    have hq := (tyQ_le (t p)).2
    show (if i = p then c % tyQ (t p) else dig t p (c / tyQ (t p)) i) < _
    by_cases z : i = p
    · rw [if_pos z, z]; exact Nat.mod_lt _ (by omega)
    · rw [if_neg z]; exact ih _ i (by omega)
def bdc (pN : Nat → Nat) (ty : Nat → Nat → Nat) (f c s : Nat) : Nat := if s < pN f then dig (ty f) (pN f) c s else tyQ (ty f s) - 1
theorem bdc_lt {pN : Nat → Nat} {ty : Nat → Nat → Nat} {f c s : Nat} : bdc pN ty f c s < tyQ (ty f s) := by
  unfold bdc
  have := (tyQ_le (ty f s)).2
  by_cases z : s < pN f
  · rw [if_pos z]; exact dig_lt _ _ _ z
  · rw [if_neg z]; omega
def bv (nS pN : Nat → Nat) (ty : Nat → Nat → Nat) (D : Nat → jDs) (V : Nat → Nat → Nat) (f c : Nat) : Nat := (ev pN ty f V D (nS f) (fun _ => 0, bdc pN ty f c) (nS (f + 1) - nS f)).1 (nS (f + 1) - 1)
def Vn (nS pN : Nat → Nat) (ty : Nat → Nat → Nat) (D : Nat → jDs) : Nat → Nat → Nat → Nat
  | 0 => fun _ _ => 0
  | n + 1 => fun f c => if c < cnt (ty f) (pN f) then bv nS pN ty D (Vn nS pN ty D n) f c else 0
theorem AP_rng {E : jEn} {F : Nat} {nS pN lN' : Nat → Nat} {ty : Nat → Nat → Nat} {W : Nat → Nat} {D : Nat → jDs} {tk : Nat → Nat} {τ ρ : jx_S} (hP : AP E F nS pN lN' ty W D tk τ ρ) {f : Nat} (hf : f < F) : nS f < nS (f + 1) ∧ nS f + (nS (f + 1) - nS f) = nS (f + 1) ∧ nS (f + 1) ≤ 1200 ∧ ∀ k, nS f ≤ k → k < nS f + (nS (f + 1) - nS f) → ∀ i, i < dM (D k) → nS f ≤ dC (D k) i := by
  obtain ⟨⟨h1, h2, h3⟩, h4, _⟩ := hP.2.2.2.2 f hf
  exact ⟨h1, by omega, h2, fun k k1 k2 => (h4 k k1 (by omega)).2.2.1⟩
theorem bv_le {E : jEn} {F : Nat} {nS pN lN' : Nat → Nat} {ty : Nat → Nat → Nat} {W : Nat → Nat} {D : Nat → jDs} {tk : Nat → Nat} {τ ρ : jx_S} (hP : AP E F nS pN lN' ty W D tk τ ρ) {V V' : Nat → Nat → Nat} (hV : LeV F pN ty V V') {f : Nat} (hf : f < F) {c c' : Nat} (hl : ∀ s, s < lN' f → leQ (tyQ (ty f s)) (bdc pN ty f c s) (bdc pN ty f c' s)) : bv nS pN ty D V f c ≤ bv nS pN ty D V' f c' ∧ bv nS pN ty D V' f c' < 2 := by
  obtain ⟨h1, h2, h3, h4⟩ := AP_rng hP hf
  have h := ev_le (q := (fun _ => 0, bdc pN ty f c)) (q' := (fun _ => 0, bdc pN ty f c')) hV hl (nS (f + 1) - nS f) (RngD_of hP hf (Nat.le_refl _) (by omega) h4)
  have h5 := h.1 (nS (f + 1) - 1) (by omega) (by omega)
  rw [tyQ_b (hP.2.2.2.2 f hf).1.2.2] at h5
  exact leQ_2.1 h5
theorem LeV_step {E : jEn} {F : Nat} {nS pN lN' : Nat → Nat} {ty : Nat → Nat → Nat} {W : Nat → Nat} {D : Nat → jDs} {tk : Nat → Nat} {τ ρ : jx_S} (hP : AP E F nS pN lN' ty W D tk τ ρ) {n m : Nat} (hV : LeV F pN ty (Vn nS pN ty D n) (Vn nS pN ty D m)) : LeV F pN ty (Vn nS pN ty D (n + 1)) (Vn nS pN ty D (m + 1)) := by
  intro f hf a a' ha
  have n1 : nm (ty f) a (pN f) < cnt (ty f) (pN f) := nm_lt _ (fun i hi => (ha i hi).1)
  have n2 : nm (ty f) a' (pN f) < cnt (ty f) (pN f) := nm_lt _ (fun i hi => (ha i hi).2.1)
  have e1 : Vn nS pN ty D (n + 1) f (nm (ty f) a (pN f)) = bv nS pN ty D (Vn nS pN ty D n) f (nm (ty f) a (pN f)) := if_pos n1
  have e2 : Vn nS pN ty D (m + 1) f (nm (ty f) a' (pN f)) = bv nS pN ty D (Vn nS pN ty D m) f (nm (ty f) a' (pN f)) := if_pos n2
  rw [e1, e2]
  refine bv_le hP hV hf (fun s hs => ?_)
  by_cases z : s < pN f
  · unfold bdc
    rw [if_pos z, if_pos z, dig_nm _ (fun i hi => (ha i hi).1) s z, dig_nm _ (fun i hi => (ha i hi).2.1) s z]
    exact ha s z
  · have : bdc pN ty f (nm (ty f) a (pN f)) s = bdc pN ty f (nm (ty f) a' (pN f)) s := by
      unfold bdc; rw [if_neg z, if_neg z]
    rw [this]; exact leQ_refl bdc_lt
theorem LeV_0 {F : Nat} {nS pN : Nat → Nat} {ty : Nat → Nat → Nat} {D : Nat → jDs} : LeV F pN ty (Vn nS pN ty D 0) (Vn nS pN ty D 0) := fun f hf a a' ha => ⟨Nat.le_refl _, (by decide : 0 < 2)⟩
theorem LeV_n {E : jEn} {F : Nat} {nS pN lN' : Nat → Nat} {ty : Nat → Nat → Nat} {W : Nat → Nat} {D : Nat → jDs} {tk : Nat → Nat} {τ ρ : jx_S} (hP : AP E F nS pN lN' ty W D tk τ ρ) : ∀ n, LeV F pN ty (Vn nS pN ty D n) (Vn nS pN ty D n) := by
  intro n
  induction n with
  | zero => exact LeV_0
  | succ n ih => exact LeV_step hP ih
theorem LeV_s {E : jEn} {F : Nat} {nS pN lN' : Nat → Nat} {ty : Nat → Nat → Nat} {W : Nat → Nat} {D : Nat → jDs} {tk : Nat → Nat} {τ ρ : jx_S} (hP : AP E F nS pN lN' ty W D tk τ ρ) : ∀ n, LeV F pN ty (Vn nS pN ty D n) (Vn nS pN ty D (n + 1)) := by
  intro n
  induction n with
  | zero =>
    intro f hf a a' ha
    have := LeV_n hP 1 f hf a' a' (fun i hi => leQ_refl (ha i hi).2.1)
    exact ⟨Nat.zero_le _, this.2⟩
  | succ n ih => exact LeV_step hP ih
theorem Vn_le {E : jEn} {F : Nat} {nS pN lN' : Nat → Nat} {ty : Nat → Nat → Nat} {W : Nat → Nat} {D : Nat → jDs} {tk : Nat → Nat} {τ ρ : jx_S} (hP : AP E F nS pN lN' ty W D tk τ ρ) {n f c : Nat} (hf : f < F) (hc : c < cnt (ty f) (pN f)) : Vn nS pN ty D n f c ≤ Vn nS pN ty D (n + 1) f c ∧ Vn nS pN ty D (n + 1) f c < 2 ∧ Vn nS pN ty D n f c < 2 := by
  have h := LeV_s hP n f hf (dig (ty f) (pN f) c) (dig (ty f) (pN f) c) (fun i hi => leQ_refl (dig_lt _ _ _ hi))
  rw [nm_dig _ _ hc] at h
  exact ⟨h.1, h.2, by omega⟩
theorem Vn_mono {E : jEn} {F : Nat} {nS pN lN' : Nat → Nat} {ty : Nat → Nat → Nat} {W : Nat → Nat} {D : Nat → jDs} {tk : Nat → Nat} {τ ρ : jx_S} (hP : AP E F nS pN lN' ty W D tk τ ρ) {f c : Nat} (hf : f < F) (hc : c < cnt (ty f) (pN f)) {n : Nat} : ∀ k, Vn nS pN ty D n f c ≤ Vn nS pN ty D (n + k) f c := by
  intro k
  induction k with
  | zero => exact Nat.le_refl _
  | succ k ih => exact Nat.le_trans ih (Vn_le hP hf hc).1
theorem Vn_out {nS pN : Nat → Nat} {ty : Nat → Nat → Nat} {D : Nat → jDs} {n f c : Nat} (hc : cnt (ty f) (pN f) ≤ c) : Vn nS pN ty D n f c = 0 := by
  cases n with
  | zero => rfl
  | succ n => exact if_neg (by omega)
/-- what changes in round n + 1 -/
def chgF (nS pN : Nat → Nat) (ty : Nat → Nat → Nat) (D : Nat → jDs) (n f : Nat) : Prop := ∃ c, c < cnt (ty f) (pN f) ∧ Vn nS pN ty D (n + 1) f c ≠ Vn nS pN ty D n f c
def chg (F : Nat) (nS pN : Nat → Nat) (ty : Nat → Nat → Nat) (D : Nat → jDs) (n : Nat) : Prop := ∃ f, f < F ∧ chgF nS pN ty D n f
theorem Vn_ext {nS pN : Nat → Nat} {ty : Nat → Nat → Nat} {D : Nat → jDs} {n f : Nat} (h : ¬ chgF nS pN ty D n f) : Vn nS pN ty D (n + 1) f = Vn nS pN ty D n f := by
  funext c
  by_cases hc : c < cnt (ty f) (pN f)
  · exact Classical.byContradiction fun z => h ⟨c, hc, z⟩
  · rw [Vn_out (by omega), Vn_out (by omega)]
/-- one that saw no change keeps its values -/
theorem Vn_keep {E : jEn} {F : Nat} {nS pN lN' : Nat → Nat} {ty : Nat → Nat → Nat} {W : Nat → Nat} {D : Nat → jDs} {tk : Nat → Nat} {τ ρ : jx_S} (hP : AP E F nS pN lN' ty W D tk τ ρ) {n f : Nat} (hf : f < F) (h : ∀ k, nS f ≤ k → k < nS (f + 1) → dK (D k) = 29 → ¬ chgF nS pN ty D n (dG (D k))) : Vn nS pN ty D (n + 2) f = Vn nS pN ty D (n + 1) f := by
  funext c
  show (if c < cnt (ty f) (pN f) then bv nS pN ty D (Vn nS pN ty D (n + 1)) f c else 0) = (if c < cnt (ty f) (pN f) then bv nS pN ty D (Vn nS pN ty D n) f c else 0)
  obtain ⟨h1, h2, h3, h4⟩ := AP_rng hP hf
  have : bv nS pN ty D (Vn nS pN ty D (n + 1)) f c = bv nS pN ty D (Vn nS pN ty D n) f c := by
    unfold bv
    rw [ev_congr (V := Vn nS pN ty D (n + 1)) (V' := Vn nS pN ty D n) (nS (f + 1) - nS f) (fun k k1 k2 k3 => Vn_ext (h k k1 (by omega) k3))]
  rw [this]
