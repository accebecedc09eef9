/-! feed: the octets of a long -/
def ocA (x : Int64) (i : Int32) : Int32 := (((x).toUInt64 >>> ((((8 : Int32) * i)).toInt64.toUInt64 &&& Int64.toUInt64 63)).toInt64).toInt32 &&& (255 : Int32)
def ocB (x : Int64) (i : Int32) : Int32 := (((x >>> ((((8 : Int32) * i)).toInt64 &&& 63)) &&& (255 : Int64))).toInt32
theorem oc_sh : ∀ i, i < 8 → ((((8 : Int32) * nI i)).toInt64.toUInt64 &&& Int64.toUInt64 63).toBitVec = BitVec.ofNat 64 (8 * i) ∧ ((((8 : Int32) * nI i)).toInt64 &&& 63).toBitVec = BitVec.ofNat 64 (8 * i) := by decide +kernel
theorem oc_sh2 : ∀ i, i < 8 → BitVec.ofNat 64 (8 * i) % 64 = BitVec.ofNat 64 (8 * i) ∧ (BitVec.ofNat 64 (8 * i)).smod 64 = BitVec.ofNat 64 (8 * i) ∧ (BitVec.ofNat 64 (8 * i)).toNat = 8 * i := by decide +kernel
theorem oc_255 : ∀ j, j < 32 → (Int32.toBitVec 255).getLsbD j = decide (j < 8) ∧ (Int64.toBitVec 255).getLsbD j = decide (j < 8) := by decide +kernel
theorem oc_eq (x : Int64) (i : Nat) (hi : i < 8) : ocA x (nI i) = ocB x (nI i) := by
  obtain ⟨h1, h2⟩ := oc_sh i hi
  obtain ⟨h3, h4, h5⟩ := oc_sh2 i hi
  unfold ocA ocB
  apply Int32.toBitVec_inj.mp
  simp only [Int32.toBitVec_and, Int64.toBitVec_toInt32, Int64.toBitVec_and, Int64.toBitVec_shiftRight, UInt64.toBitVec_shiftRight, UInt64.toBitVec_toInt64, Int64.toBitVec_toUInt64, h1, h2, h3, h4]
  apply BitVec.eq_of_getLsbD_eq
  intro j hj
  obtain ⟨h6, h7⟩ := oc_255 j hj
  rw [BitVec.getLsbD_and, h6, BitVec.getLsbD_signExtend, BitVec.getLsbD_signExtend, BitVec.getLsbD_and, h7]
  rw [if_pos (by omega), if_pos (by omega)]
  by_cases h8 : j < 8
  · rw [BitVec.ushiftRight_eq', h5, BitVec.getLsbD_ushiftRight]
    rw [show x.toBitVec.sshiftRight' (BitVec.ofNat 64 (8 * i)) = x.toBitVec.sshiftRight (8 * i) by unfold BitVec.sshiftRight'; rw [h5]]
    rw [BitVec.getLsbD_sshiftRight, if_pos (by omega)]
    simp [show ¬ 64 ≤ j by omega, h8]
  · simp [h8]
/-- an octet is one -/
theorem oc_in (x : Int64) (i : Int32) : ∃ n, n < 256 ∧ ocA x i = nI n := by
  unfold ocA
  obtain ⟨n, h1, h2⟩ := pk_andE (((x).toUInt64 >>> ((((8 : Int32) * i)).toInt64.toUInt64 &&& Int64.toUInt64 63)).toInt64).toInt32 (m := (255 : Int32)) 8 (by decide)
  exact ⟨n, h1, h2⟩
