/-! RUNS, 8: what is put off, in both. -/
def cStat : List Nat := [23, 25, 27, 29, 31, 33, 35, 37, 39, 43, 45, 47, 51, 59]
def rStat : List Nat := [111, 112, 113, 114, 115, 116, 117, 118, 119, 120, 121, 122, 123, 124, 125, 127, 128, 129, 131, 136]
theorem RP_keep {E : jEn} {G : jGh} {F : Nat} {nS pN bN lN' : Nat → Nat} {ty : Nat → Nat → Nat} {W : Nat → Nat} {D : Nat → jDs} {tk LO : Nat → Nat} {sl sp : Nat → Nat → Nat} {τ ρ τ' ρ' : jx_S} (h : RP E G F nS pN bN lN' ty W D tk LO sl sp τ ρ) (h1 : same cStat τ τ') (h2 : τ'.2 19 = τ.2 19) (h3 : same rStat ρ ρ') : RP E G F nS pN bN lN' ty W D tk LO sl sp τ' ρ' := by
  unfold RP RFn RNd AN v_cTre_boundBy at *
  rw [h1 23 (by decide), h1 25 (by decide), h1 27 (by decide), h1 29 (by decide), h1 31 (by decide), h1 33 (by decide), h1 35 (by decide), h1 37 (by decide), h1 39 (by decide), h1 43 (by decide), h1 45 (by decide), h1 47 (by decide), h1 51 (by decide), h1 59 (by decide), h2, h3 111 (by decide), h3 112 (by decide), h3 113 (by decide), h3 114 (by decide), h3 115 (by decide), h3 116 (by decide), h3 117 (by decide), h3 118 (by decide), h3 119 (by decide), h3 120 (by decide), h3 122 (by decide), h3 123 (by decide), h3 124 (by decide), h3 125 (by decide), h3 127 (by decide), h3 128 (by decide), h3 129 (by decide), h3 131 (by decide), h3 136 (by decide)]
  exact h
/-- what putting off may change -/
def CPF (τ τ' : jx_S) : Prop := (∀ r, r ∉ [8, 9, 89, 91, 93, 103, 105] → τ'.1 r = τ.1 r) ∧ (∀ j, j ≠ 14 → τ'.1 8 j = τ.1 8 j) ∧ (∀ j, j ∉ [12, 15, 16] → τ'.1 9 j = τ.1 9 j) ∧ ∀ r, r ∉ [99, 101] → τ'.2 r = τ.2 r
def RPF (ρ ρ' : jx_S) : Prop := (∀ r, r ∉ [106, 151, 152, 153, 158, 159, 169, 170] → ρ'.1 r = ρ.1 r) ∧ (∀ j, j ∉ [67, 74, 76, 87, 101] → ρ'.1 106 j = ρ.1 106 j) ∧ ∀ r, r ∉ [157, 160] → ρ'.2 r = ρ.2 r
theorem CPF_refl {τ : jx_S} : CPF τ τ := ⟨fun _ _ => rfl, fun _ _ => rfl, fun _ _ => rfl, fun _ _ => rfl⟩
theorem RPF_refl {τ : jx_S} : RPF τ τ := ⟨fun _ _ => rfl, fun _ _ => rfl, fun _ _ => rfl⟩
theorem CPF_trans {τ τ1 τ2 : jx_S} (h : CPF τ τ1) (k : CPF τ1 τ2) : CPF τ τ2 := ⟨fun r a => (k.1 r a).trans (h.1 r a), fun r a => (k.2.1 r a).trans (h.2.1 r a), fun r a => (k.2.2.1 r a).trans (h.2.2.1 r a), fun r a => (k.2.2.2 r a).trans (h.2.2.2 r a)⟩
theorem RPF_trans {τ τ1 τ2 : jx_S} (h : RPF τ τ1) (k : RPF τ1 τ2) : RPF τ τ2 := ⟨fun r a => (k.1 r a).trans (h.1 r a), fun r a => (k.2.1 r a).trans (h.2.1 r a), fun r a => (k.2.2 r a).trans (h.2.2 r a)⟩
theorem CPF_f {τ τ' : jx_S} (h : CPF τ τ') : v_cMac_frame τ' = v_cMac_frame τ := by
  unfold v_cMac_frame
  rw [h.1 77 (by decide), h.2.1 11 (by decide)]
theorem RP_f {E : jEn} {G : jGh} {F : Nat} {nS pN bN lN' : Nat → Nat} {ty : Nat → Nat → Nat} {W : Nat → Nat} {D : Nat → jDs} {tk LO : Nat → Nat} {sl sp : Nat → Nat → Nat} {τ ρ τ' ρ' : jx_S} (h : RP E G F nS pN bN lN' ty W D tk LO sl sp τ ρ) (h1 : CPF τ τ') (h2 : RPF ρ ρ') : RP E G F nS pN bN lN' ty W D tk LO sl sp τ' ρ' := RP_keep h (fun r hr => h1.1 r (by revert hr; revert r; decide)) (h1.2.2.2 19 (by decide)) (fun r hr => h2.1 r (by revert hr; revert r; decide))
/-- what else of the heap stays -/
def HQ (H H' : jHp) : Prop := H'.2.1 = H.2.1 ∧ H'.2.2.2.2.1 = H.2.2.2.2.1 ∧ H'.2.2.2.2.2.1 = H.2.2.2.2.2.1 ∧ (∀ i, i < jPn H → jPs H' i = jPs H i ∧ jPv H' i = jPv H i) ∧ (∀ i, jPn H ≤ i → i < jPn H' → jPs H' i = 0) ∧ (jAn H ≤ jAn H' ∧ jPn H ≤ jPn H') ∧ jPn H' ≤ 3000
theorem HQ_trans {H H1 H2 : jHp} (h : HQ H H1) (k : HQ H1 H2) : HQ H H2 := by
  obtain ⟨a1, a2, a3, a4, a5, a6, a7⟩ := h
  obtain ⟨b1, b2, b3, b4, b5, b6, b7⟩ := k
  refine ⟨b1.trans a1, b2.trans a2, b3.trans a3, fun i hi => ?_, fun i h1 h2 => ?_, by omega, b7⟩
  · have u := a4 i hi
    have v := b4 i (by omega)
    exact ⟨v.1.trans u.1, v.2.trans u.2⟩
  · by_cases z : i < jPn H1
    · rw [(b4 i z).1]; exact a5 i h1 z
    · exact b5 i (by omega) h2
def OwK (φ lo hi : Nat) (H H' : jHp) : Prop := ∀ c ψ, ¬ (ψ = φ ∧ lo ≤ c ∧ c ≤ hi) → jOw H' c ψ = jOw H c ψ
def simU (gd : Nat → Prop) (ρ u : jx_S) : Prop := u.1 = ρ.1 ∧ (∀ r, r ≠ 160 → u.2 r = ρ.2 r) ∧ ∀ a, gd a → u.2 160 a = ρ.2 160 a
def PO (E : jEn) (G : jGh) (F : Nat) (nS pN bN lN' : Nat → Nat) (ty : Nat → Nat → Nat) (W : Nat → Nat) (D : Nat → jDs) (tk LO : Nat → Nat) (sl sp : Nat → Nat → Nat) (H : jHp) (φ : Nat) (gd : Nat → Prop) (q : Nat) (τ ρ : jx_S) : Prop := RP E G F nS pN bN lN' ty W D tk LO sl sp τ ρ ∧ RPu H 0 (0, 0) τ ρ ∧ RPa H τ ρ ∧ RGo H gd τ ρ ∧ RLo lN' H τ ρ ∧ (τ.1 8 14 = 0 ∧ ρ.1 106 87 = 0 ∧ v_cMac_frame τ = nI (jFb H φ) ∧ ρ.1 106 101 = nI q) ∧ HI E G F nS pN bN lN' ty W D tk LO sl sp H gd ∧ (∀ a, gd a → a < jAn H)
theorem PO_sim {E : jEn} {G : jGh} {F : Nat} {nS pN bN lN' : Nat → Nat} {ty : Nat → Nat → Nat} {W : Nat → Nat} {D : Nat → jDs} {tk LO : Nat → Nat} {sl sp : Nat → Nat → Nat} {H : jHp} {φ q : Nat} {gd : Nat → Prop} {τ ρ u : jx_S} (h : PO E G F nS pN bN lN' ty W D tk LO sl sp H φ gd q τ ρ) (hs : simU gd ρ u) : PO E G F nS pN bN lN' ty W D tk LO sl sp H φ gd q τ u := by
  obtain ⟨h1, h2, h3, h4, h5, h6, h7, h8⟩ := h
  obtain ⟨s1, s2, s3⟩ := hs
  refine ⟨RP_keep h1 (fun _ _ => rfl) rfl (fun r _ => by rw [s1]), ?_, ?_, ?_, ?_, ?_, h7, h8⟩
  · unfold RPu at *; rw [s1, s2 154 (by decide)]; exact h2
  · unfold RPa at *; rw [s1, s2 157 (by decide)]; exact h3
  · obtain ⟨a, b, c⟩ := h4
    exact ⟨a, by rw [s1]; exact b, fun x hx hg => ⟨(c x hx hg).1, by rw [s3 x hg]; exact (c x hx hg).2⟩⟩
  · unfold RLo at *; rw [s1, s2 150 (by decide)]; exact h5
  · rw [s1]; exact h6
/-- both have put c off -/
def PSuc (E : jEn) (G : jGh) (F : Nat) (nS pN bN lN' : Nat → Nat) (ty : Nat → Nat → Nat) (W : Nat → Nat) (D : Nat → jDs) (tk LO : Nat → Nat) (sl sp : Nat → Nat → Nat) (H : jHp) (φ : Nat) (gd : Nat → Prop) (q c : Nat) (τ ρ : jx_S) (a : aV) (τ' ρ1 : jx_S) : Prop := CPF τ τ' ∧ ∀ u, simU gd ρ1 u → ∃ H' ρ2 st, (HX H H' ∧ HQ H H' ∧ OwK φ (LO c) c H H' ∧ VT F pN bN ty W H' (W c) a) ∧ (∀ N x3, jx_loop (N + st) r12 (nI (jFb H φ), x3, u) = jx_loop N r12 (nI (jFb H φ), x3, ρ2)) ∧ PO E G F nS pN bN lN' ty W D tk LO sl sp H' φ (fun x => gd x ∨ (jAn H ≤ x ∧ x < jAn H')) q τ' ρ2 ∧ RPF ρ ρ2 ∧ (∀ x, x < jAn H → ρ2.2 160 x = u.2 160 x) ∧ (∀ j, j < q → ρ2.1 169 j = ρ.1 169 j ∧ ρ2.1 170 j = ρ.1 170 j) ∧ st ≤ c - LO c
/-- there is no room in either -/
def PFul (LO : Nat → Nat) (H : jHp) (φ : Nat) (gd : Nat → Prop) (c : Nat) (τ ρ τ' ρ1 : jx_S) : Prop := CPF τ τ' ∧ τ'.1 8 14 = 5 ∧ ∀ u, simU gd ρ1 u → ∃ H' ρ2 st, HQ H H' ∧ (∀ N x3, jx_loop (N + st + 1) r12 (nI (jFb H φ), x3, u) = some (x3, ρ2)) ∧ ρ2.1 106 87 = 5 ∧ RPu H' 0 (0, 0) τ' ρ2 ∧ RPF ρ ρ2 ∧ st ≤ c - LO c
/-- nothing more is to be done -/
theorem suc_leaf {E : jEn} {G : jGh} {F : Nat} {nS pN bN lN' : Nat → Nat} {ty : Nat → Nat → Nat} {W : Nat → Nat} {D : Nat → jDs} {tk LO : Nat → Nat} {sl sp : Nat → Nat → Nat} {H : jHp} {φ q c : Nat} {gd : Nat → Prop} {τ ρ : jx_S} {a : aV} (h : PO E G F nS pN bN lN' ty W D tk LO sl sp H φ gd q τ ρ) (hv : VT F pN bN ty W H (W c) a) : PSuc E G F nS pN bN lN' ty W D tk LO sl sp H φ gd q c τ ρ a τ ρ := by
  refine ⟨CPF_refl, fun u hu => ⟨H, u, 0, ⟨HX_refl, ⟨rfl, rfl, rfl, fun _ _ => ⟨rfl, rfl⟩, fun i h1 h2 => by omega, ⟨Nat.le_refl _, Nat.le_refl _⟩, h.2.2.2.2.2.2.1.2.1.1⟩, fun _ _ _ => rfl, hv⟩, fun _ _ => rfl, ?_, ?_, fun _ _ => rfl, fun j _ => by rw [hu.1]; exact ⟨rfl, rfl⟩, Nat.zero_le _⟩⟩
  · have hp := PO_sim h hu
    have e : (fun x => gd x ∨ (jAn H ≤ x ∧ x < jAn H)) = gd := by
      funext x
      exact propext ⟨fun q => by
        rcases q with q | q
        · exact q
        · omega, Or.inl⟩
    rw [e]; exact hp
  · exact ⟨fun r _ => by rw [hu.1], fun j _ => by rw [hu.1], fun r hr => hu.2.1 r (fun z => hr (by rw [z]; decide))⟩
