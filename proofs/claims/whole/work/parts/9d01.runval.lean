/-! RUNS, 1: what is held: a tag and a number, in both. -/
def cV (v : Nat × Int32) : Int64 := v_cHea_hold (nI (v.1 + 1)) v.2 s0
def rV (v : Nat × Int32) : Int64 := v_r_tagged (lN v.1) v.2 s0
theorem cV_eq (t : Nat) (n : Int32) (σ : jx_S) : v_cHea_hold (nI (t + 1)) n σ = cV (t, n) := rfl
theorem rV_eq (t : Nat) (n : Int32) (σ : jx_S) : v_r_tagged (lN t) n σ = rV (t, n) := rfl
theorem sh32 : (((32 : Int32)).toInt64 &&& 63).toBitVec = 32#64 ∧ ((((32 : Int32)).toInt64.toUInt64 &&& Int64.toUInt64 63)).toBitVec = 32#64 := by decide +kernel
theorem sh32b : ((32#64).smod 64) = 32#64 ∧ ((32#64) % 64) = 32#64 ∧ (32#64).toNat = 32 := by decide +kernel
theorem low32 : ∀ j, j < 64 → (Int64.toBitVec 4294967295).getLsbD j = decide (j < 32) := by decide +kernel
theorem lo_num (x : Int64) (n : Int32) : ((x <<< (((32 : Int32)).toInt64 &&& 63)) ||| (n.toInt64 &&& (4294967295 : Int64))).toInt32 = n := by
  obtain ⟨h1, _⟩ := sh32
  obtain ⟨h2, _, h3⟩ := sh32b
  apply Int32.toBitVec_inj.mp
  simp only [Int64.toBitVec_toInt32, Int64.toBitVec_or, Int64.toBitVec_and, Int64.toBitVec_shiftLeft, Int32.toBitVec_toInt64, h1, h2]
  apply BitVec.eq_of_getLsbD_eq
  intro i hi
  rw [BitVec.getLsbD_signExtend, BitVec.getLsbD_or, BitVec.getLsbD_and, low32 i (by omega), BitVec.shiftLeft_eq', h3, BitVec.getLsbD_shiftLeft, BitVec.getLsbD_signExtend]
  simp [hi, show i < 64 by omega]
theorem hi_tag (t : Nat) (ht : t < 8) (n : Int32) : (((lN t <<< (((32 : Int32)).toInt64 &&& 63)) ||| (n.toInt64 &&& (4294967295 : Int64))) >>> (((32 : Int32)).toInt64 &&& 63)).toInt32 = nI t ∧ ((((lN t <<< (((32 : Int32)).toInt64 &&& 63)) ||| (n.toInt64 &&& (4294967295 : Int64))).toUInt64 >>> (((32 : Int32)).toInt64.toUInt64 &&& Int64.toUInt64 63)).toInt64).toInt32 = nI t := by
  obtain ⟨h1, h1'⟩ := sh32
  obtain ⟨h2, h2', h3⟩ := sh32b
  have hb : ∀ j, j < 32 → (lN t).toBitVec.getLsbD j = (nI t).toBitVec.getLsbD j := by
    have : ∀ t, t < 8 → ∀ j, j < 32 → (lN t).toBitVec.getLsbD j = (nI t).toBitVec.getLsbD j := by decide +kernel
    exact this t ht
  have key : ∀ i, i < 32 → ((lN t).toBitVec <<< 32 ||| (n.toBitVec.signExtend 64 &&& Int64.toBitVec 4294967295)).getLsbD (32 + i) = (nI t).toBitVec.getLsbD i := fun i hi => by
    rw [BitVec.getLsbD_or, BitVec.getLsbD_and, low32 (32 + i) (by omega), BitVec.getLsbD_shiftLeft, ← hb i hi]
    simp [show 32 + i < 64 by omega, show ¬ (32 + i < 32) by omega, show 32 + i - 32 = i by omega]
  constructor
  · apply Int32.toBitVec_inj.mp
    simp only [Int64.toBitVec_toInt32, Int64.toBitVec_or, Int64.toBitVec_and, Int64.toBitVec_shiftLeft, Int64.toBitVec_shiftRight, Int32.toBitVec_toInt64, h1, h2]
    apply BitVec.eq_of_getLsbD_eq
    intro i hi
    rw [BitVec.getLsbD_signExtend, show ∀ y : BitVec 64, y.sshiftRight' 32#64 = y.sshiftRight 32 from fun y => by unfold BitVec.sshiftRight'; rw [h3], BitVec.getLsbD_sshiftRight, BitVec.shiftLeft_eq', h3, if_pos (by omega)]
    rw [if_pos (show 32 + i < 64 by omega), key i hi]
    simp [show ¬ (64 ≤ i) by omega, hi]
  · apply Int32.toBitVec_inj.mp
    simp only [Int64.toBitVec_toInt32, UInt64.toBitVec_toInt64, UInt64.toBitVec_shiftRight, Int64.toBitVec_toUInt64, Int64.toBitVec_or, Int64.toBitVec_and, Int64.toBitVec_shiftLeft, Int32.toBitVec_toInt64, h1, h1', h2, h2']
    apply BitVec.eq_of_getLsbD_eq
    intro i hi
    rw [BitVec.getLsbD_signExtend, BitVec.ushiftRight_eq', h3, BitVec.getLsbD_ushiftRight, BitVec.shiftLeft_eq', h3, if_pos (by omega), key i hi]
    simp [hi]
theorem nI_lN {t : Nat} (h : t < 2 ^ 31) : (nI t).toInt64 = lN t := nI_l h
theorem c_tag {t : Nat} (ht : t < 7) (n : Int32) (σ : jx_S) : v_cHea_tagOf (cV (t, n)) σ = nI (t + 1) := by
  unfold v_cHea_tagOf cV v_cHea_hold
  rw [nI_lN (show t + 1 < 2 ^ 31 by omega)]
  exact (hi_tag (t + 1) (by omega) n).2
theorem c_num (v : Nat × Int32) (σ : jx_S) : v_cHea_numberOf (cV v) σ = v.2 := lo_num _ _
theorem r_tag {t : Nat} (ht : t < 8) (n : Int32) (σ : jx_S) : v_r_tagOf (rV (t, n)) σ = nI t := (hi_tag t ht n).1
theorem r_num (v : Nat × Int32) : (rV v).toInt32 = v.2 := lo_num _ _
