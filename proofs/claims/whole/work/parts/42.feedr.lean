/-- what forget() leaves of the reference: its fields that a call may ask for -/
def rf_zero (τ : jx_S) : Prop := τ.1 106 3 = 0 ∧ τ.1 106 4 = 0 ∧ τ.1 106 5 = -1 ∧ τ.1 106 38 = 0 ∧ τ.1 106 39 = 0 ∧ τ.1 106 98 = 0 ∧ τ.1 106 62 = 0 ∧ τ.1 106 67 = 0 ∧ τ.1 106 70 = 0 ∧ τ.1 106 74 = 0 ∧ τ.1 106 76 = 0 ∧ τ.1 106 82 = 0 ∧ τ.1 106 83 = 0 ∧ τ.1 106 85 = 0 ∧ τ.1 106 88 = 0 ∧ τ.1 106 91 = 0 ∧ τ.1 106 92 = 0 ∧ τ.1 106 93 = 0 ∧ τ.1 106 95 = 0 ∧ τ.1 106 96 = 0 ∧ τ.1 106 87 = 0
/-- THE REFERENCE's feed, on its good road -/
theorem q_r_feed (σ : jx_S) (z n : Nat) (x2 : Int64) (hz : σ.1 106 1 = nI z) (h1 : 1 ≤ n) (h8 : n ≤ 8) (hzn : z + n ≤ 4000) :
    ∃ τ, p_r_feed (nI n) x2 σ = some (nI (z + n), τ) ∧ τ.1 106 1 = nI (z + n) ∧ τ.1 106 2 = 0 ∧ τ.1 107 = fd_row x2 z n (σ.1 107) ∧ rf_zero τ := by
  have hs : p_r_feed (nI n) x2 σ = p_r_feed_44 (nI n) x2 0 (jx_i σ 106 2 0) := by
    unfold p_r_feed
    rw [if_neg (show ¬ nI n < (1 : Int32) from (nI_nlt h1 (by omega) : ¬ nI n < nI 1)), if_neg (show ¬ (8 : Int32) < nI n from (nI_nlt h8 (by omega) : ¬ nI 8 < nI n)), if_pos (show σ.1 106 1 + nI n ≤ (4000 : Int32) by rw [hz, nI_add]; exact (nI_le hzn (by omega) : nI (z + n) ≤ nI 4000))]
    unfold p_r_feed_29
    rw [if_pos (by decide)]
  rw [hs]
  unfold p_r_feed_44
  have key := jx_loop_by (f := (fun s : Int32 × Int64 × Int32 × jx_S => p_r_feed_44_s s.1 s.2.1 s.2.2.1 (s.2.2.2)))
    (fun s => ∃ i, i ≤ n ∧ s.1 = nI n ∧ s.2.1 = x2 ∧ s.2.2.1 = nI i ∧ s.2.2.2.1 106 1 = nI z ∧ s.2.2.2.1 106 2 = 0 ∧ s.2.2.2.1 107 = fd_row x2 z i (σ.1 107))
    (fun s => n - s.2.2.1.toNatClampNeg)
    (fun _ b => b.1 = nI (z + n) ∧ b.2.1 106 1 = nI (z + n) ∧ b.2.1 106 2 = 0 ∧ b.2.1 107 = fd_row x2 z n (σ.1 107) ∧ rf_zero b.2) (by
      rintro ⟨a, b, c, τ⟩ ⟨i, hi, ha, hb, hc, hz1, hz2, hr⟩
      dsimp only at ha hb hc hz1 hz2 hr ⊢
      subst ha; subst hb; subst hc
      unfold p_r_feed_44_s
      rcases Nat.lt_or_ge i n with h | h
      · left
        have hzi : τ.1 106 1 + nI i = nI (z + i) := by rw [hz1, nI_add]
        rw [if_neg (nI_ge h (by omega)), hzi, if_neg (jo_in (by omega) (by omega))]
        refine ⟨_, rfl, ⟨i + 1, by omega, rfl, rfl, nI_1 i, hz1, hz2, ?_⟩, ?_, fun b hb => hb⟩
        · show (jx_i τ 107 (nI (z + i)).toNatClampNeg (ocB b (nI i))).1 107 = _
          rw [jx_i_upd, nI_clamp (by omega), hr, ← oc_eq b i (by omega), fd_row_s]
        · show n - (nI i + 1).toNatClampNeg < n - (nI i).toNatClampNeg
          rw [nI_1, nI_clamp (by omega), nI_clamp (by omega)]
          omega
      · right
        have e : i = n := by omega
        subst e
        rw [if_pos (nI_le (Nat.le_refl _) (by omega))]
        refine ⟨_, rfl, ?_⟩
        have hzz : τ.1 106 1 + nI i = nI (z + i) := by rw [hz1, nI_add]
        exact ⟨hzz, hzz, hz2, hr, rfl, rfl, rfl, rfl, rfl, rfl, rfl, rfl, rfl, rfl, rfl, rfl, rfl, rfl, rfl, rfl, rfl, rfl, rfl, rfl, rfl⟩)
    100000000 (nI n, x2, 0, jx_i σ 106 2 0) ⟨0, Nat.zero_le _, rfl, rfl, rfl, hz, rfl, (fd_row_0 _ _ _).symm⟩ (by show n - _ < 100000000; omega)
  obtain ⟨b, hb, hQ⟩ := key
  exact ⟨b.2, by rw [hb]; exact congrArg some (Prod.ext hQ.1 rfl), hQ.2⟩
