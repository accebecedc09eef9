/-! CALLS, 1: between the calls. -/
def dynM : List Nat := [13, 71, 73, 75, 77, 79, 81, 83, 85, 87, 89, 91, 93, 95, 97, 99, 101, 103, 105]
def dynR : List Nat := [150, 151, 152, 153, 154, 155, 156, 157, 158, 159, 160, 161, 162, 163, 164, 165, 166, 167, 168, 169, 170]
/-- the class's rows, but for runs and arguments -/
def sC (τ σ : jx_S) : Prop := ∀ k j, k < 106 → k ∉ dynM → (k, j) ∉ fs_cl_run → σ.1 k j = τ.1 k j ∧ σ.2 k j = τ.2 k j
def sR (ρ σ : jx_S) : Prop := ∀ k j, 106 ≤ k → k < 171 → k ∉ dynR → (k, j) ∉ fs_r_run → σ.1 k j = ρ.1 k j ∧ σ.2 k j = ρ.2 k j
def eqC (τ τ' : jx_S) : Prop := ∀ k j, k < 106 → τ'.1 k j = τ.1 k j ∧ τ'.2 k j = τ.2 k j
def eqR (ρ ρ' : jx_S) : Prop := ∀ k j, 106 ≤ k → k < 171 → ρ'.1 k j = ρ.1 k j ∧ ρ'.2 k j = ρ.2 k j
def iCP (T : Nat → Nat) (z : Nat) (τ : jx_S) : Prop := tx (τ.1 11) T z ∧ τ.1 0 10 = nI z ∧ τ.1 0 12 = 0 ∧ (∀ k, 3 ≤ k → k < 16 → τ.2 21 k = lN (wd k)) ∧ (τ.1 29 0 = 0 ∧ τ.1 23 0 = 0)
/-- compiled, in both -/
def iCD (T : Nat → Nat) (z : Nat) (τ ρ : jx_S) : Prop := τ.1 0 12 = 1 ∧ ∃ τ0 τ1 ρ1 v, iCP T z τ0 ∧ p_cl_compile τ0 = some (v, τ1) ∧ sC τ1 τ ∧ sR ρ1 ρ ∧ (XF τ1 ρ1 ∨ UU T z τ1 ρ1)
def iND (τ ρ : jx_S) : Prop := τ.1 0 12 = 0 ∧ ρ.1 106 3 = 0 ∧ ρ.1 106 5 = -1 ∧ ρ.1 106 38 = 0 ∧ ρ.1 106 39 = 0
def iTX (T : Nat → Nat) (z : Nat) (τ ρ : jx_S) : Prop := (z ≤ 4000 ∧ tx (τ.1 11) T z ∧ tx (ρ.1 107) T z ∧ τ.1 0 10 = nI z ∧ ρ.1 106 1 = nI z) ∧ (∀ k, 3 ≤ k → k < 16 → τ.2 21 k = lN (wd k)) ∧ (τ.1 29 0 = 0 ∧ τ.1 23 0 = 0)
def iAG (g : Nat) (τ ρ : jx_S) : Prop := g ≤ 8 ∧ τ.1 0 11 = nI g ∧ ρ.1 106 98 = nI g ∧ ∀ i, i < g → τ.1 13 i = ρ.1 168 i
def IV2 (τ ρ : jx_S) : Prop := ∃ T z g, iTX T z τ ρ ∧ iAG g τ ρ ∧ TD τ ρ ∧ (iND τ ρ ∨ iCD T z τ ρ)
theorem sC_move {τ1 τ τ' : jx_S} (h : sC τ1 τ) (k : eqC τ τ') : sC τ1 τ' := fun a b h1 h2 h3 => ⟨(k a b h1).1.trans (h a b h1 h2 h3).1, (k a b h1).2.trans (h a b h1 h2 h3).2⟩
theorem sR_move {τ1 τ τ' : jx_S} (h : sR τ1 τ) (k : eqR τ τ') : sR τ1 τ' := fun a b h1 h0 h2 h3 => ⟨(k a b h1 h0).1.trans (h a b h1 h0 h2 h3).1, (k a b h1 h0).2.trans (h a b h1 h0 h2 h3).2⟩
theorem iTX_move {T : Nat → Nat} {z : Nat} {τ ρ τ' ρ' : jx_S} (h : iTX T z τ ρ) (c11 : ∀ j, τ'.1 11 j = τ.1 11 j) (c0 : τ'.1 0 10 = τ.1 0 10) (c21 : ∀ j, τ'.2 21 j = τ.2 21 j) (c29 : τ'.1 29 0 = τ.1 29 0 ∧ τ'.1 23 0 = τ.1 23 0) (r107 : ∀ j, ρ'.1 107 j = ρ.1 107 j) (r1 : ρ'.1 106 1 = ρ.1 106 1) : iTX T z τ' ρ' := by
  obtain ⟨⟨a1, a2, a3, a4, a5⟩, b, c⟩ := h
  exact ⟨⟨a1, fun j hj => ⟨(a2 j hj).1, (c11 j).trans (a2 j hj).2⟩, fun j hj => ⟨(a3 j hj).1, (r107 j).trans (a3 j hj).2⟩, c0.trans a4, r1.trans a5⟩, fun k h1 h2 => (c21 k).trans (b k h1 h2), c29.1.trans c.1, c29.2.trans c.2⟩
theorem iAG_move {g : Nat} {τ ρ τ' ρ' : jx_S} (h : iAG g τ ρ) (c0 : τ'.1 0 11 = τ.1 0 11) (c13 : ∀ j, τ'.1 13 j = τ.1 13 j) (r98 : ρ'.1 106 98 = ρ.1 106 98) (r168 : ∀ j, ρ'.1 168 j = ρ.1 168 j) : iAG g τ' ρ' := ⟨h.1, c0.trans h.2.1, r98.trans h.2.2.1, fun i hi => (c13 i).trans ((h.2.2.2 i hi).trans (r168 i).symm)⟩
theorem iTD_move {τ ρ τ' ρ' : jx_S} (h : TD τ ρ) (c71 : ∀ j, τ'.1 71 j = τ.1 71 j) (c73 : ∀ j, τ'.1 73 j = τ.1 73 j) (r106 : ∀ j, j ∈ [67, 70, 83, 88, 91, 92, 93, 95, 96] → ρ'.1 106 j = ρ.1 106 j) (r153 : ∀ j, ρ'.1 153 j = ρ.1 153 j) (r167 : ∀ j, ρ'.1 167 j = ρ.1 167 j) : TD τ' ρ' := by
  have e : und ρ' = und ρ := by
    funext n
    unfold und
    exact sumN_congr n (fun i _ => by rw [r153 i])
  obtain ⟨n, go, ⟨a1, a2, a3, a4⟩, ⟨b1, b2, b3, b4, b5, b6⟩, ⟨c1, c2, c3, c4⟩, d1, d2⟩ := h
  refine ⟨n, go, ⟨a1, ?_, ?_, ?_⟩, ⟨?_, ?_, ?_, ?_, ?_, ?_⟩, ⟨c1, ?_, ?_, fun i hi => ?_⟩, ?_, ?_⟩
  · rw [r106 67 (by decide)]; exact a2
  · rw [c71]; exact a3
  · rw [c71, e]; exact a4
  · rw [c71, r106 88 (by decide)]; exact b1
  · rw [c71, r106 70 (by decide)]; exact b2
  · rw [c71, r106 83 (by decide)]; exact b3
  · rw [c71, r106 93 (by decide)]; exact b4
  · rw [c71, r106 91 (by decide)]; exact b5
  · rw [c71, r106 92 (by decide)]; exact b6
  · rw [c71]; exact c2
  · rw [r106 95 (by decide)]; exact c3
  · rw [c73, r167]; exact c4 i hi
  · rw [c71, r106 96 (by decide)]; exact d1
  · rw [r106 96 (by decide)]; exact d2
theorem iND_move {τ ρ τ' ρ' : jx_S} (h : iND τ ρ) (c0 : τ'.1 0 12 = τ.1 0 12) (r106 : ∀ j, j ∈ [3, 5, 38, 39] → ρ'.1 106 j = ρ.1 106 j) : iND τ' ρ' := ⟨c0.trans h.1, (r106 3 (by decide)).trans h.2.1, (r106 5 (by decide)).trans h.2.2.1, (r106 38 (by decide)).trans h.2.2.2.1, (r106 39 (by decide)).trans h.2.2.2.2⟩
theorem IV2_move {τ ρ τ' ρ' : jx_S} (h : IV2 τ ρ) (hc : eqC τ τ') (hr : eqR ρ ρ') : IV2 τ' ρ' := by
  obtain ⟨T, z, g, h1, h2, h3, h4⟩ := h
  refine ⟨T, z, g, iTX_move h1 (fun j => (hc 11 j (by decide)).1) (hc 0 10 (by decide)).1 (fun j => (hc 21 j (by decide)).2) ⟨(hc 29 0 (by decide)).1, (hc 23 0 (by decide)).1⟩ (fun j => (hr 107 j (by decide) (by decide)).1) (hr 106 1 (by decide) (by decide)).1, iAG_move h2 (hc 0 11 (by decide)).1 (fun j => (hc 13 j (by decide)).1) (hr 106 98 (by decide) (by decide)).1 (fun j => (hr 168 j (by decide) (by decide)).1), iTD_move h3 (fun j => (hc 71 j (by decide)).1) (fun j => (hc 73 j (by decide)).1) (fun j _ => (hr 106 j (by decide) (by decide)).1) (fun j => (hr 153 j (by decide) (by decide)).1) (fun j => (hr 167 j (by decide) (by decide)).1), ?_⟩
  rcases h4 with h4 | ⟨a, τ0, τ1, ρ1, v, b1, b2, b3, b4, b5⟩
  · exact Or.inl (iND_move h4 (hc 0 12 (by decide)).1 (fun j _ => (hr 106 j (by decide) (by decide)).1))
  · exact Or.inr ⟨(hc 0 12 (by decide)).1.trans a, τ0, τ1, ρ1, v, b1, b2, sC_move b3 hc, sR_move b4 hr, b5⟩
/-- the reference's thrown is set -/
theorem IV2_2 {τ ρ : jx_S} {v : Int32} (h : IV2 τ ρ) : IV2 τ (jx_i ρ 106 2 v) := by
  have e : ∀ j, j ≠ 2 → (jx_i ρ 106 2 v).1 106 j = ρ.1 106 j := fun j hj => by rw [s_i_eq, u_ne hj]
  obtain ⟨T, z, g, h1, h2, h3, h4⟩ := h
  refine ⟨T, z, g, iTX_move h1 (fun _ => rfl) rfl (fun _ => rfl) ⟨rfl, rfl⟩ (fun j => by rw [s_i_ne (by decide)]) (e 1 (by decide)), iAG_move h2 rfl (fun _ => rfl) (e 98 (by decide)) (fun j => by rw [s_i_ne (by decide)]), iTD_move h3 (fun _ => rfl) (fun _ => rfl) (fun j hj => e j (fun q => by subst q; revert hj; decide)) (fun j => by rw [s_i_ne (by decide)]) (fun j => by rw [s_i_ne (by decide)]), ?_⟩
  rcases h4 with h4 | ⟨a, τ0, τ1, ρ1, v', b1, b2, b3, b4, b5⟩
  · exact Or.inl (iND_move h4 rfl (fun j hj => e j (fun q => by subst q; revert hj; decide)))
  · refine Or.inr ⟨a, τ0, τ1, ρ1, v', b1, b2, b3, fun k j q1 q0 q2 q3 => ?_, b5⟩
    have := b4 k j q1 q0 q2 q3
    refine ⟨?_, this.2⟩
    show (if k = 106 ∧ j = 2 then v else ρ.1 k j) = _
    rw [if_neg (fun q => q3 (by rw [q.1, q.2]; decide))]
    exact this.1
