/-! COMPILE, 1: what reading and typing leave is what analysis asks for. -/
theorem ap_of {E : jEn} (hE : EnvOK E) {G : jGh} {F K : Nat} {nS tS : Nat → Nat} {τ1 ρ1 τ ρ : jx_S} (hG : PG E F (eC E) K τ1 ρ1) (hT : TreeOK E G F K nS tS τ1 ρ1) (hA : TyAll E G F nS (parN ρ1) (baseN ρ1) (locN ρ1) tS (tyN ρ1) τ ρ) (k1 : ∀ r, r ∉ [33, 37, 53] → τ.1 r = τ1.1 r) (k2 : ∀ r, r ∉ [106, 123, 124, 133, 144, 145] → ρ.1 r = ρ1.1 r) (k3 : ∀ j, j ≠ 55 → j ≠ 56 → ρ.1 106 j = ρ1.1 106 j) : ∃ R : Nat → jRw, (∀ g, g < F → RawF E G F nS (parN ρ1) (baseN ρ1) (tyN ρ1) R τ ρ g) ∧ AP E F nS (parN ρ1) (locN ρ1) (tyN ρ1) (wtN ρ) (dsc R ρ) (fun k => (R k).2.1) τ ρ ∧ ∀ g, g < F → ∀ k, nS g ≤ k → k < nS (g + 1) → okT F (parN ρ1) (baseN ρ1) (tyN ρ1) g (wtN ρ) (dsc R ρ k) k ∧ wtN ρ k < 14 := by
  have hm := nS_mono hT
  obtain ⟨t1, t2, t3, t4, t5, t6⟩ := id hT
  obtain ⟨hP, hAg⟩ := id hA
  obtain ⟨R, hR⟩ := raw_of hm (fun g hg => (t6 g hg).1) (fun g hg => by have := (t6 g hg).2.1; omega) hA
  obtain ⟨p1, p2, p3, p4, p5, p6, p7, p8⟩ := hP
  obtain ⟨gE, gC, gR, ⟨g1, g2, g3, g4, g5⟩, gr⟩ := hG
  have h23 : τ.1 23 0 ≠ 5 := by
    rw [k1 23 (by decide), g5.2]; decide
  have hnode : ∀ g, g < F → ∀ k, nS g ≤ k → k < nS (g + 1) → AN E τ ρ k (R k).2.1 (dsc R ρ k) ∧ okT F (parN ρ1) (baseN ρ1) (tyN ρ1) g (wtN ρ) (dsc R ρ k) k ∧ wtN ρ k < 14 ∧ τ.1 37 (k + 1) = nI (wtN ρ k) ∧ ρ.1 124 k = nI (wtN ρ k) ∧ (dK (dsc R ρ k) = 28 → dS (dsc R ρ k) < locN ρ1 g) ∧ (dK (dsc R ρ k) = 5 → dS (dsc R ρ k) < locN ρ1 g) ∧ (dK (dsc R ρ k) = 10 → dS (dsc R ρ k) + 1 < locN ρ1 g) ∧ (dB (dsc R ρ k) = 0 ∨ (dB (dsc R ρ k) - 1 < locN ρ1 g ∧ tyN ρ1 g (dB (dsc R ρ k) - 1) = wtN ρ k)) := fun g hg k q1 q2 => by
    obtain ⟨a1, a2, a3, p, b, l, hB, _⟩ := t6 g hg
    refine dsc_ok hE (by omega) hg t1 h23 ?_ p3 (hAg g hg).1 (hR g hg) q1 q2
    rw [k2 122 (by decide)]
    exact hB.2.2.2.2.2.2.2.2.2.2.2.2.2.2.2.2.2.2.1
  refine ⟨R, hR, ⟨t1, p4, p5, ?_, fun g hg => ?_⟩, fun g hg k q1 q2 => ⟨(hnode g hg k q1 q2).2.1, (hnode g hg k q1 q2).2.2.1⟩⟩
  · rw [k3 25 (by decide) (by decide), gr.1.2.2.2.1, t4]
  · obtain ⟨a1, a2, a3, p, b, l, hB, f1, f2, f3, f4, f5, f6, f7, f8⟩ := t6 g hg
    obtain ⟨hT1, h37, hD, hc1, hc2, hc3⟩ := hAg g hg
    obtain ⟨d1, d2, d3, d4, d5, d6, d7, d8, d9, d10, d11, d12, d13, d14⟩ := p3 g hg
    have hl : locN ρ1 g = l := by unfold locN; rw [hB.2.2.2.2.2.2.2.2.1]; exact nI_clamp (by have := hB.2.2.2.1; omega)
    have e51 : nS (g + 1) - 1 + 1 = nS (g + 1) := by omega
    refine ⟨⟨a1, by omega, ?_⟩, fun k q1 q2 => ?_, ⟨d1, ?_, ?_, ?_, hc2, fun i hi => (d9 i hi).2.1⟩, ⟨d2, ?_, ?_, ?_, hc3, fun i hi => (d9 i hi).2.2, d10⟩, d3, d7, d8, hc1, fun i hi => (d9 i hi).1⟩
    · obtain ⟨_, _, n3, n4, _⟩ := hnode g hg (nS (g + 1) - 1) (by omega) (by omega)
      rw [e51, h37] at n4
      have := (nI_eq (by omega) (by omega)).1 n4
      omega
    · obtain ⟨n1, n2, n3, n4, n5, n6, n7, n8, n9⟩ := hnode g hg k q1 q2
      obtain ⟨⟨hS, hC, _⟩, hlo, _⟩ := (hR g hg).1 k q1 q2
      refine ⟨n1, okD_of p3 hg n1 n2 n3 n6 n9, fun i hi => ?_, fun h5 => ?_⟩
      · have := (hC i hi).2.1
        show nS g ≤ (R k).2.2.2.2.2 i
        omega
      · have hM : dM (dsc R ρ k) = 2 := by
          unfold okT at n2
          rcases n2 with h | h | h | h | h | h | h | h | h | h
          · omega
          · omega
          · omega
          · omega
          · omega
          · exact h.2.1
          · omega
          · omega
          · omega
          · omega
        have hM' : (R k).2.2.1 = 2 := hM
        have c1 := hC 1 (by omega)
        have c0 := hC 0 (by omega)
        have hlt := c1.2.2.2.1 (by omega)
        have h121 : ρ.1 121 ((R k).2.2.2.2.2 1) = nI ((R k).2.2.2.2.2 0 + 1) := c1.2.2.1
        refine ⟨hM, n7 h5, h121, hlt, fun j j1 j2 i hi => ?_⟩
        have j1' : (R k).2.2.2.2.2 0 < j := j1
        have j2' : j ≤ (R k).2.2.2.2.2 1 := j2
        have hx1 : nS g ≤ (R k).2.2.2.2.2 1 := by have := c1.2.1; omega
        have hx2 : (R k).2.2.2.2.2 1 < nS (g + 1) := by have := c1.1; omega
        obtain ⟨⟨hSx, _⟩, _, _⟩ := (hR g hg).1 _ hx1 hx2
        have elo : (R ((R k).2.2.2.2.2 1)).2.2.2.1 = (R k).2.2.2.2.2 0 + 1 := by
          have e := hSx.2.2.2.2.2.2.2.1
          rw [h121] at e
          have := hSx.2.2.2.2.2.2.2.2.1
          have := c0.1
          exact ((nI_eq (by omega) (by omega)).1 e).symm
        have hl2 := (hR g hg).2 _ hx1 hx2 j j2' (by omega)
        obtain ⟨⟨_, hCj, _⟩, _, _⟩ := (hR g hg).1 j (by have := c0.2.1; omega) (by omega)
        have := (hCj i hi).2.1
        show (R k).2.2.2.2.2 0 < (R j).2.2.2.2.2 i
        omega
    · rw [k1 47 (by decide), hl]; exact hB.2.2.2.2.2.2.2.1
    · rw [k1 49 (by decide)]; exact f6
    · rw [k1 51 (by decide), hB.2.2.2.2.2.2.2.2.2.2.1, e51]
    · rw [k2 129 (by decide), hl]; exact hB.2.2.2.2.2.2.2.2.1
    · rw [k2 132 (by decide)]; exact hB.2.2.2.2.2.2.2.2.2.1
    · rw [k2 131 (by decide)]; exact hB.2.2.2.2.2.2.2.2.2.2.2.1
