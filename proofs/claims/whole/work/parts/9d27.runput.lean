/-! RUNS, 27: a part of the top is put off, in both. -/
def PUS (E : jEn) (G : jGh) (F : Nat) (nS pN bN lN' : Nat → Nat) (ty : Nat → Nat → Nat) (W : Nat → Nat) (D : Nat → jDs) (tk LO : Nat → Nat) (sl sp : Nat → Nat → Nat) (H : jHp) (φ c : Nat) (τ ρ : jx_S) (a : aV) (H' : jHp) (τ' ρ' : jx_S) : Prop := CPF τ τ' ∧ RPF ρ ρ' ∧ HX H H' ∧ HQ H H' ∧ OwK φ (LO c) c H H' ∧ VT F pN bN ty W H' (W c) a ∧ PO E G F nS pN bN lN' ty W D tk LO sl sp H' φ (fun x => x < jAn H') 0 τ' ρ' ∧ ∀ x, x < jAn H → ρ'.2 160 x = ρ.2 160 x
def PUF (H : jHp) (τ ρ : jx_S) (H' : jHp) (τ' ρ' : jx_S) : Prop := CPF τ τ' ∧ RPF ρ ρ' ∧ τ'.1 8 14 = 5 ∧ ρ'.1 106 87 = 5 ∧ HQ H H' ∧ RPu H' 0 (0, 0) τ' ρ'
theorem put_off {E : jEn} {G : jGh} {F : Nat} {nS pN bN lN' : Nat → Nat} {ty : Nat → Nat → Nat} {W : Nat → Nat} {D : Nat → jDs} {tk LO : Nat → Nat} {sl sp : Nat → Nat → Nat} {H : jHp} {φ d c : Nat} {τ ρ : jx_S} (hP0 : PO E G F nS pN bN lN' ty W D tk LO sl sp H φ (fun x => x < jAn H) 0 τ (jx_i ρ 106 101 (nI 0))) (hpre : PRe E G F nS pN bN lN' ty W D tk LO sl sp H φ d c) : (∃ a τ' ρ' H', p_cMac_putOff 33 (nI (c + 1)) (0 : Int32) τ = some (cV a, τ') ∧ p_r_putOff (nI c) (nI (jFb H φ)) ρ = some (rV a, ρ') ∧ PUS E G F nS pN bN lN' ty W D tk LO sl sp H φ c τ ρ a H' τ' ρ') ∨ ∃ v y τ' ρ' H', p_cMac_putOff 33 (nI (c + 1)) (0 : Int32) τ = some (v, τ') ∧ p_r_putOff (nI c) (nI (jFb H φ)) ρ = some (y, ρ') ∧ PUF H τ ρ H' τ' ρ' := by
  have hga : gA G c ≤ 30 := by unfold gA; omega
  have hO := put2 (φ := φ) (d := d) 33 c 0 0 H (fun x => x < jAn H) τ (jx_i ρ 106 101 (nI 0)) (by omega) (by omega) (by omega) hP0 hpre
  have hc : c < 1200 := by
    obtain ⟨p1, p2, p3, _⟩ := hpre
    have := (hP0.1.2.2 (jFf H φ) (hP0.2.2.2.2.2.2.1.1.2 φ p1).1).1.2.1
    omega
  rcases hO with ⟨a, τ', ρ1, r1, r2, r3, r4⟩ | ⟨v, τ', y, ρ1, r1, r2, r3, r5, r4⟩
  · obtain ⟨H', ρ2, st, ⟨x1, x2, x3, x4⟩, x5, x6, x7, x9, _, x8⟩ := r4 ρ1 ⟨rfl, fun _ _ => rfl, fun _ _ => rfl⟩
    refine Or.inl ⟨a, τ', ρ2, H', r1, ?_, r3, RPF_trans RPF_q x7, x1, x2, x3, x4, ?_, fun x hx => (x9 x hx).trans (f_r_putOne _ _ _ _ jFr.rfl _ r2 160 x (by decide) (by simp [fs_r_putOne])).2⟩
    · unfold p_r_putOff p_r_putOff_12
      rw [show jx_i ρ 106 101 (0 : Int32) = jx_i ρ 106 101 (nI 0) from rfl, r2, Option.bind_some]
      show jx_loop 100000000 r12 (nI (jFb H φ), rV a, ρ1) = _
      rw [show 100000000 = (100000000 - st - 1 + 1) + st by omega, x5]
      refine jx_loop_out (X := some (rV a, ρ2)) ?_ _
      show p_r_putOff_12_s (nI (jFb H φ)) (rV a) ρ2 = _
      unfold p_r_putOff_12_s
      rw [x6.2.2.2.2.2.1.2.2.2, if_pos (show nI 0 ≤ (0 : Int32) by decide)]
    · have e : (fun x => x < jAn H ∨ (jAn H ≤ x ∧ x < jAn H')) = (fun x => x < jAn H') := by
        funext x
        have := x2.2.2.2.2.2.1.1
        exact propext ⟨fun q => by omega, fun q => by omega⟩
      have x6' : PO E G F nS pN bN lN' ty W D tk LO sl sp H' φ (fun x => x < jAn H ∨ (jAn H ≤ x ∧ x < jAn H')) 0 τ' ρ2 := x6
      rw [e] at x6'
      exact x6'
  · obtain ⟨H', ρ2, st, x1, x2, x3, x4, x5, x6⟩ := r4 ρ1 ⟨rfl, fun _ _ => rfl, fun _ _ => rfl⟩
    refine Or.inr ⟨v, y, τ', ρ2, H', r1, ?_, r3, RPF_trans RPF_q x5, r5, x3, x1, x4⟩
    unfold p_r_putOff p_r_putOff_12
    rw [show jx_i ρ 106 101 (0 : Int32) = jx_i ρ 106 101 (nI 0) from rfl, r2, Option.bind_some]
    show jx_loop 100000000 r12 (nI (jFb H φ), y, ρ1) = _
    rw [show 100000000 = (100000000 - st - 1) + st + 1 by omega, x2]
theorem RPu_an {H : jHp} {a b : aV} {τ ρ : jx_S} (h : RPu H 0 a τ ρ) : RPu H 0 b τ ρ := by
  obtain ⟨h1, h2, h3⟩ := h
  refine ⟨h1, h2, fun i hi => ?_⟩
  obtain ⟨u1, u2, u3, u4, u5⟩ := h3 i hi
  exact ⟨u1, u2, u3, u4, fun q => by omega⟩
