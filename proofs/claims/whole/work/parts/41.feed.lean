/-! feed: the octets of a long -/
def ocA (x : Int64) (i : Int32) : Int32 := (((x).toUInt64 >>> ((((8 : Int32) * i)).toInt64.toUInt64 &&& Int64.toUInt64 63)).toInt64).toInt32 &&& (255 : Int32)
def ocB (x : Int64) (i : Int32) : Int32 := (((x >>> ((((8 : Int32) * i)).toInt64 &&& 63)) &&& (255 : Int64))).toInt32
theorem oc_sh : ∀ i, i < 8 → ((((8 : Int32) * nI i)).toInt64.toUInt64 &&& Int64.toUInt64 63).toBitVec = BitVec.ofNat 64 (8 * i) ∧ ((((8 : Int32) * nI i)).toInt64 &&& 63).toBitVec = BitVec.ofNat 64 (8 * i) := by decide +kernel
theorem oc_sh2 : ∀ i, i < 8 → BitVec.ofNat 64 (8 * i) % 64 = BitVec.ofNat 64 (8 * i) ∧ (BitVec.ofNat 64 (8 * i)).smod 64 = BitVec.ofNat 64 (8 * i) ∧ (BitVec.ofNat 64 (8 * i)).toNat = 8 * i := by decide +kernel
theorem oc_255 : ∀ j, j < 32 → (Int32.toBitVec 255).getLsbD j = decide (j < 8) ∧ (Int64.toBitVec 255).getLsbD j = decide (j < 8) := by decide +kernel
theorem oc_eq (x : Int64) (i : Nat) (hi : i < 8) : ocA x (nI i) = ocB x (nI i) := by
  obtain ⟨h1, h2⟩ := oc_sh i hi
  obtain ⟨h3, h4, h5⟩ := oc_sh2 i hi
  unfold ocA ocB
  apply Int32.toBitVec_inj.mp
  simp only [Int32.toBitVec_and, Int64.toBitVec_toInt32, Int64.toBitVec_and, Int64.toBitVec_shiftRight, UInt64.toBitVec_shiftRight, UInt64.toBitVec_toInt64, Int64.toBitVec_toUInt64, h1, h2, h3, h4]
  apply BitVec.eq_of_getLsbD_eq
  intro j hj
  obtain ⟨h6, h7⟩ := oc_255 j hj
  rw [BitVec.getLsbD_and, h6, BitVec.getLsbD_signExtend, BitVec.getLsbD_signExtend, BitVec.getLsbD_and, h7]
  rw [if_pos (by omega), if_pos (by omega)]
  by_cases h8 : j < 8
  · rw [BitVec.ushiftRight_eq', h5, BitVec.getLsbD_ushiftRight]
    rw [show x.toBitVec.sshiftRight' (BitVec.ofNat 64 (8 * i)) = x.toBitVec.sshiftRight (8 * i) by unfold BitVec.sshiftRight'; rw [h5]]
    rw [BitVec.getLsbD_sshiftRight, if_pos (by omega)]
    simp [show ¬ 64 ≤ j by omega, h8]
  · simp [h8]
/-- an octet is one -/
theorem oc_in (x : Int64) (i : Int32) : ∃ n, n < 256 ∧ ocA x i = nI n := by
  unfold ocA
  obtain ⟨n, h1, h2⟩ := pk_andE (((x).toUInt64 >>> ((((8 : Int32) * i)).toInt64.toUInt64 &&& Int64.toUInt64 63)).toInt64).toInt32 (m := (255 : Int32)) 8 (by decide)
  exact ⟨n, h1, h2⟩
/-- what a feed leaves: the text row T (of the object k), before z octets, behind them n -/
def fd_row (x2 : Int64) (z n : Nat) (f : Nat → Int32) : Nat → Int32 := fun j => if z ≤ j ∧ j < z + n then ocA x2 (nI (j - z)) else f j
theorem fd_row_0 (x2 : Int64) (z : Nat) (f : Nat → Int32) : fd_row x2 z 0 f = f := by
  funext j
  unfold fd_row
  rw [if_neg (by omega)]
theorem fd_row_s (x2 : Int64) (z i : Nat) (f : Nat → Int32) : upd (fd_row x2 z i f) (z + i) (ocA x2 (nI i)) = fd_row x2 z (i + 1) f := by
  funext j
  unfold fd_row upd
  by_cases h : j = z + i
  · subst h
    rw [if_pos rfl, if_pos (by omega), Nat.add_sub_cancel_left]
  · rw [if_neg h]
    dsimp only
    by_cases h1 : z ≤ j ∧ j < z + i
    · rw [if_pos h1, if_pos (by omega)]
    · rw [if_neg h1, if_neg (by omega)]
/-- THE CLASS's feed, on its good road -/
theorem q_cl_feed (σ : jx_S) (z n : Nat) (x2 : Int64) (hz : σ.1 0 10 = nI z) (h1 : 1 ≤ n) (h8 : n ≤ 8) (hzn : z + n ≤ 4000) :
    ∃ τ, p_cl_feed (nI n) x2 σ = some (nI (z + n), τ) ∧ τ.1 0 10 = nI (z + n) ∧ τ.1 0 12 = 0 ∧ τ.1 0 11 = 0 ∧ τ.1 11 = fd_row x2 z n (σ.1 11) ∧ ∀ j, j < 10 → τ.1 71 j = 0 := by
  have hs : p_cl_feed (nI n) x2 σ = p_cl_feed_36 (nI n) x2 0 σ := by
    unfold p_cl_feed
    rw [if_neg (show ¬ nI n < (1 : Int32) from (nI_nlt h1 (by omega) : ¬ nI n < nI 1)), if_neg (show ¬ (8 : Int32) < nI n from (nI_nlt h8 (by omega) : ¬ nI 8 < nI n)), if_pos (show σ.1 0 10 + nI n ≤ (4000 : Int32) by rw [hz, nI_add]; exact (nI_le hzn (by omega) : nI (z + n) ≤ nI 4000))]
  rw [hs]
  unfold p_cl_feed_36
  have key := jx_loop_by (f := (fun s : Int32 × Int64 × Int32 × jx_S => p_cl_feed_36_s s.1 s.2.1 s.2.2.1 (s.2.2.2)))
    (fun s => ∃ i, i ≤ n ∧ s.1 = nI n ∧ s.2.1 = x2 ∧ s.2.2.1 = nI i ∧ s.2.2.2.1 0 10 = nI z ∧ s.2.2.2.1 11 = fd_row x2 z i (σ.1 11))
    (fun s => n - s.2.2.1.toNatClampNeg)
    (fun _ b => b.1 = nI (z + n) ∧ b.2.1 0 10 = nI (z + n) ∧ b.2.1 0 12 = 0 ∧ b.2.1 0 11 = 0 ∧ b.2.1 11 = fd_row x2 z n (σ.1 11) ∧ ∀ j, j < 10 → b.2.1 71 j = 0) (by
      rintro ⟨a, b, c, τ⟩ ⟨i, hi, ha, hb, hc, hz1, hr⟩
      dsimp only at ha hb hc hz1 hr ⊢
      subst ha; subst hb; subst hc
      unfold p_cl_feed_36_s
      rcases Nat.lt_or_ge i n with h | h
      · left
        rw [if_neg (nI_ge h (by omega))]
        refine ⟨_, rfl, ⟨i + 1, by omega, rfl, rfl, nI_1 i, hz1, ?_⟩, ?_, fun b hb => hb⟩
        · show jI_up 4000 (τ.1 11) (τ.1 0 10 + nI i) (ocA b (nI i)) = _
          rw [hz1, nI_add, jI_up_in (by omega) (by omega), hr, fd_row_s]
        · show n - (nI i + 1).toNatClampNeg < n - (nI i).toNatClampNeg
          rw [nI_1, nI_clamp (by omega), nI_clamp (by omega)]
          omega
      · right
        have e : i = n := by omega
        subst e
        rw [if_pos (nI_le (Nat.le_refl _) (by omega))]
        refine ⟨_, rfl, ?_⟩
        have hzz : τ.1 0 10 + nI i = nI (z + i) := by rw [hz1, nI_add]
        refine ⟨hzz, hzz, rfl, rfl, hr, fun j hj => ?_⟩
        show (if j < 10 then (0 : Int32) else _) = 0
        rw [if_pos hj])
    100000000 (nI n, x2, 0, σ) ⟨0, Nat.zero_le _, rfl, rfl, rfl, hz, (fd_row_0 _ _ _).symm⟩ (by show n - _ < 100000000; omega)
  obtain ⟨b, hb, hQ⟩ := key
  exact ⟨b.2, by rw [hb]; exact congrArg some (Prod.ext hQ.1 rfl), hQ.2⟩
