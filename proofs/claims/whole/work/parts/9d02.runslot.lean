/-! RUNS, 2: what binds a slot, binds it alone. -/
/-- the node k binds the slot s -/
def bsN (R : Nat → jRw) (k s : Nat) : Prop := ((R k).1 = 5 ∧ s = (R k).2.2.2.2.1) ∨ ((R k).1 = 10 ∧ (s = (R k).2.2.2.2.1 ∨ s = (R k).2.2.2.2.1 + 1))
/-- a node's parts lie one behind another -/
theorem nd_in {LO : Nat → Nat} {cs : Nat → Nat} {lo : Nat} : ∀ m, (∀ i, i < m → LO (cs i) = (if i = 0 then lo else cs (i - 1) + 1) ∧ LO (cs i) ≤ cs i) → ∀ k, lo ≤ k → (0 < m → k ≤ cs (m - 1)) → 0 < m → ∃ i, i < m ∧ LO (cs i) ≤ k ∧ k ≤ cs i := by
  intro m
  induction m with
  | zero => intro _ k _ _ h; omega
  | succ m ih =>
    intro h k h1 h2 _
    have h3 := h2 (by omega)
    rw [Nat.add_sub_cancel] at h3
    obtain ⟨e1, e2⟩ := h m (by omega)
    by_cases z : m = 0
    · subst z
      rw [if_pos rfl] at e1
      exact ⟨0, by omega, by omega, h3⟩
    · rw [if_neg z] at e1
      by_cases y : k ≤ cs (m - 1)
      · obtain ⟨i, i1, i2, i3⟩ := ih (fun i hi => h i (by omega)) k h1 (fun _ => y) (by omega)
        exact ⟨i, by omega, i2, i3⟩
      · exact ⟨m, by omega, by omega, h3⟩
theorem gd_chain {B D' : Nat → Nat} {m o : Nat} {cs : Nat → Nat} {b : Nat} (hBD : ∀ i, i < m → B (cs i) ≤ D' (cs i)) (hB : ∀ i, i < m → B (cs i) = (if i = 0 then b else D' (cs (i - 1))) + (if o = 5 ∧ i = 0 then 1 else if o = 10 ∧ i = 2 then 2 else 0)) : ∀ j, j < m → b ≤ B (cs j) ∧ ∀ i, i < j → D' (cs i) ≤ B (cs j) := by
  intro j
  induction j with
  | zero =>
    intro hj
    have := hB 0 hj
    rw [if_pos rfl] at this
    exact ⟨by omega, fun i hi => by omega⟩
  | succ j ih =>
    intro hj
    obtain ⟨a1, a2⟩ := ih (by omega)
    have h1 := hB (j + 1) hj
    rw [if_neg (by omega), Nat.add_sub_cancel] at h1
    have h2 := hBD j (by omega)
    refine ⟨by omega, fun i hi => ?_⟩
    by_cases z : i = j
    · subst z; omega
    · have := a2 i (by omega); omega
theorem slots {E : jEn} {G : jGh} {F : Nat} {nS pN bN : Nat → Nat} {ty : Nat → Nat → Nat} {R : Nat → jRw} {τ ρ : jx_S} {g : Nat} (hb : nS (g + 1) ≤ 1200) (hF : RawF E G F nS pN bN ty R τ ρ g) : ∀ x, nS g ≤ x → x < nS (g + 1) → ∀ k s, (R x).2.2.2.1 ≤ k → k ≤ x → bsN R k s → (gB G x ≤ s ∧ s < gD G x) ∧ ∀ k', (R x).2.2.2.1 ≤ k' → k' ≤ x → bsN R k' s → k' = k := by
  intro x
  induction x using Nat.strongRecOn with
  | ind x ih =>
    intro x1 x2
    obtain ⟨⟨hS, hC, _⟩, hlo, _⟩ := hF.1 x x1 x2
    obtain ⟨c1, c2, c3, c4, c5, c6, c7, c8, c9, c10, c11, c12, c13, c14, c15, c16, c17, c18, c19, c20, c21, c22, c23, c24⟩ := hS
    have hch : ∀ i, i < (R x).2.2.1 → nS g ≤ (R x).2.2.2.2.2 i ∧ (R x).2.2.2.2.2 i < x ∧ (R ((R x).2.2.2.2.2 i)).2.2.2.1 = (if i = 0 then (R x).2.2.2.1 else (R x).2.2.2.2.2 (i - 1) + 1) ∧ (R ((R x).2.2.2.2.2 i)).2.2.2.1 ≤ (R x).2.2.2.2.2 i ∧ gB G ((R x).2.2.2.2.2 i) ≤ gD G ((R x).2.2.2.2.2 i) ∧ gB G ((R x).2.2.2.2.2 i) = (if i = 0 then gB G x else gD G ((R x).2.2.2.2.2 (i - 1))) + (if (R x).1 = 5 ∧ i = 0 then 1 else if (R x).1 = 10 ∧ i = 2 then 2 else 0) := fun i hi => by
      obtain ⟨n1, n2, n3, n4, n5, n6, n7, n8, n9, n10, n11⟩ := hC i hi
      obtain ⟨⟨hS', _⟩, _, _⟩ := hF.1 ((R x).2.2.2.2.2 i) (by omega) (by omega)
      have e := hS'.2.2.2.2.2.2.2.1
      have l := hS'.2.2.2.2.2.2.2.2.1
      rw [n3] at e
      have e2 := (nI_eq (by
        by_cases z : i = 0
        · rw [if_pos z]; omega
        · rw [if_neg z]; have := n4 (by omega); omega) (by omega)).1 e
      exact ⟨by omega, n1, e2.symm, l, hS'.2.2.2.2.2.2.2.2.2.2.2.2.2.2.2.2.2.2.2.2.2.1, n10⟩
    have hchain := gd_chain (B := gB G) (D' := gD G) (m := (R x).2.2.1) (o := (R x).1) (cs := (R x).2.2.2.2.2) (b := gB G x) (fun i hi => (hch i hi).2.2.2.2.1) (fun i hi => (hch i hi).2.2.2.2.2)
    have hDx : ∀ i, i < (R x).2.2.1 → gD G ((R x).2.2.2.2.2 i) ≤ gD G x := fun i hi => by
      rw [c24, if_neg (by omega)]
      by_cases z : i = (R x).2.2.1 - 1
      · rw [← z]; exact Nat.le_refl _
      · have h1 := (hchain ((R x).2.2.1 - 1) (by omega)).2 i (by omega)
        have h2 := (hch ((R x).2.2.1 - 1) (by omega)).2.2.2.2.1
        omega
    have hfind : ∀ k, (R x).2.2.2.1 ≤ k → k < x → ∃ i, i < (R x).2.2.1 ∧ (R ((R x).2.2.2.2.2 i)).2.2.2.1 ≤ k ∧ k ≤ (R x).2.2.2.2.2 i := fun k k1 k2 => by
      by_cases z : (R x).2.2.1 = 0
      · have := c10 z; omega
      · have := c11 (by omega)
        exact nd_in (LO := fun k => (R k).2.2.2.1) (R x).2.2.1 (fun i hi => ⟨(hch i hi).2.2.1, (hch i hi).2.2.2.1⟩) k k1 (fun _ => by omega) (by omega)
    -- what a part's node binds, and what the node itself binds
    have hpart : ∀ k s i, i < (R x).2.2.1 → (R ((R x).2.2.2.2.2 i)).2.2.2.1 ≤ k → k ≤ (R x).2.2.2.2.2 i → bsN R k s → (gB G ((R x).2.2.2.2.2 i) ≤ s ∧ s < gD G ((R x).2.2.2.2.2 i)) ∧ ∀ k', (R ((R x).2.2.2.2.2 i)).2.2.2.1 ≤ k' → k' ≤ (R x).2.2.2.2.2 i → bsN R k' s → k' = k := fun k s i hi k1 k2 hb => ih _ (hch i hi).2.1 (hch i hi).1 (by have := (hch i hi).2.1; omega) k s k1 k2 hb
    have hown : ∀ s, bsN R x s → (gB G x ≤ s ∧ s < gD G x) ∧ ∀ i, i < (R x).2.2.1 → ¬ (gB G ((R x).2.2.2.2.2 i) ≤ s ∧ s < gD G ((R x).2.2.2.2.2 i)) := fun s hs => by
      rcases hs with ⟨o, rfl⟩ | ⟨o, hs⟩
      · have hm : (R x).2.2.1 = 2 := by unfold arOK at c6; omega
        obtain ⟨_, _, e⟩ := c19 o
        have a0 := (hch 0 (by omega)).2.2.2.2
        have a1 := (hchain 1 (by omega)).2 0 (by omega)
        rw [if_pos rfl, if_pos ⟨o, rfl⟩] at a0
        have d0 := hDx 0 (by omega)
        refine ⟨by omega, fun i hi q => ?_⟩
        rcases (show i = 0 ∨ i = 1 by omega) with rfl | rfl
        · omega
        · omega
      · have hm : (R x).2.2.1 = 3 := by unfold arOK at c6; omega
        obtain ⟨_, _, _, e⟩ := c20 o
        have a2 := (hch 2 (by omega)).2.2.2.2
        rw [if_neg (by omega), if_neg (by omega), if_pos ⟨o, rfl⟩, show 2 - 1 = 1 from rfl] at a2
        have a1 := (hchain 1 (by omega)).2 0 (by omega)
        have a10 := (hchain 1 (by omega)).1
        have b1 := (hch 1 (by omega)).2.2.2.2.1
        have d2 := hDx 2 (by omega)
        refine ⟨by omega, fun i hi q => ?_⟩
        rcases (show i = 0 ∨ i = 1 ∨ i = 2 by omega) with rfl | rfl | rfl
        · omega
        · omega
        · omega
    intro k s k1 k2 hks
    by_cases z : k = x
    · subst z
      obtain ⟨h1, h2⟩ := hown s hks
      refine ⟨h1, fun k' q1 q2 q3 => ?_⟩
      by_cases y : k' = k
      · exact y
      · obtain ⟨i, i1, i2, i3⟩ := hfind k' q1 (by omega)
        exact absurd (hpart k' s i i1 i2 i3 q3).1 (h2 i i1)
    · obtain ⟨i, i1, i2, i3⟩ := hfind k k1 (by omega)
      obtain ⟨⟨p1, p2⟩, p3⟩ := hpart k s i i1 i2 i3 hks
      have u1 := (hchain i i1).1
      have u2 := hDx i i1
      refine ⟨⟨by omega, by omega⟩, fun k' q1 q2 q3 => ?_⟩
      by_cases y : k' = x
      · subst y
        exact absurd ⟨p1, p2⟩ ((hown s q3).2 i i1)
      · obtain ⟨j, j1, j2, j3⟩ := hfind k' q1 (by omega)
        by_cases w : j = i
        · subst w; exact p3 k' j2 j3 q3
        · obtain ⟨⟨r1, r2⟩, _⟩ := hpart k' s j j1 j2 j3 q3
          rcases (show j < i ∨ i < j by omega) with q | q
          · have := (hchain i i1).2 j q; omega
          · have := (hchain j j1).2 i q; omega
