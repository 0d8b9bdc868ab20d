section BITS
theorem bz {i : Nat} (h8 : ¬ i < 8) : (Int32.toBitVec 255).getLsbD i = false := by
  show (255 : Nat).testBit i = false
  exact Nat.testBit_lt_two_pow (Nat.lt_of_lt_of_le (by decide : 255 < 2 ^ 8) (Nat.pow_le_pow_right (by decide) (by omega)))
theorem b_lo (y : Int32) : y.toInt8.toInt32 &&& 255 = y &&& 255 := by
  apply Int32.toBitVec_inj.mp
  rw [Int32.toBitVec_and, Int32.toBitVec_and, Int8.toBitVec_toInt32, Int32.toBitVec_toInt8]
  apply BitVec.eq_of_getLsbD_eq
  intro i hi
  rw [BitVec.getLsbD_and, BitVec.getLsbD_and]
  by_cases h8 : i < 8
  · rw [BitVec.getLsbD_signExtend, BitVec.getLsbD_signExtend]
    simp [h8, hi]
  · have hz : (Int32.toBitVec 255).getLsbD i = false := by
      show (255 : Nat).testBit i = false
      exact Nat.testBit_lt_two_pow (Nat.lt_of_lt_of_le (by decide : 255 < 2 ^ 8) (Nat.pow_le_pow_right (by decide) (by omega)))
    rw [hz, Bool.and_false, Bool.and_false]
theorem b_sh24 (x : Int32) : (x.toUInt32 >>> (Int32.toUInt32 24 &&& Int32.toUInt32 31)).toInt32 &&& 255 = (x >>> ((24 : Int32) &&& 31)) &&& 255 := by
  have e1 : (x.toUInt32 >>> (Int32.toUInt32 24 &&& Int32.toUInt32 31)).toInt32.toBitVec = x.toBitVec >>> 24 := rfl
  have e2 : (x >>> ((24 : Int32) &&& 31)).toBitVec = x.toBitVec.sshiftRight 24 := rfl
  apply Int32.toBitVec_inj.mp
  rw [Int32.toBitVec_and, Int32.toBitVec_and, e1, e2]
  apply BitVec.eq_of_getLsbD_eq
  intro i hi
  rw [BitVec.getLsbD_and, BitVec.getLsbD_and]
  by_cases h8 : i < 8
  · rw [BitVec.getLsbD_ushiftRight, BitVec.getLsbD_sshiftRight]
    have h9 : 24 + i < 32 := by omega
    have h10 : ¬ 32 ≤ i := by omega
    simp [h9, hi, h10]
  · rw [bz h8, Bool.and_false, Bool.and_false]
theorem b_sh16 (x : Int32) : (x.toUInt32 >>> (Int32.toUInt32 16 &&& Int32.toUInt32 31)).toInt32 &&& 255 = (x >>> ((16 : Int32) &&& 31)) &&& 255 := by
  have e1 : (x.toUInt32 >>> (Int32.toUInt32 16 &&& Int32.toUInt32 31)).toInt32.toBitVec = x.toBitVec >>> 16 := rfl
  have e2 : (x >>> ((16 : Int32) &&& 31)).toBitVec = x.toBitVec.sshiftRight 16 := rfl
  apply Int32.toBitVec_inj.mp
  rw [Int32.toBitVec_and, Int32.toBitVec_and, e1, e2]
  apply BitVec.eq_of_getLsbD_eq
  intro i hi
  rw [BitVec.getLsbD_and, BitVec.getLsbD_and]
  by_cases h8 : i < 8
  · rw [BitVec.getLsbD_ushiftRight, BitVec.getLsbD_sshiftRight]
    have h9 : 16 + i < 32 := by omega
    have h10 : ¬ 32 ≤ i := by omega
    simp [h9, hi, h10]
  · rw [bz h8, Bool.and_false, Bool.and_false]
theorem b_sh8 (x : Int32) : (x.toUInt32 >>> (Int32.toUInt32 8 &&& Int32.toUInt32 31)).toInt32 &&& 255 = (x >>> ((8 : Int32) &&& 31)) &&& 255 := by
  have e1 : (x.toUInt32 >>> (Int32.toUInt32 8 &&& Int32.toUInt32 31)).toInt32.toBitVec = x.toBitVec >>> 8 := rfl
  have e2 : (x >>> ((8 : Int32) &&& 31)).toBitVec = x.toBitVec.sshiftRight 8 := rfl
  apply Int32.toBitVec_inj.mp
  rw [Int32.toBitVec_and, Int32.toBitVec_and, e1, e2]
  apply BitVec.eq_of_getLsbD_eq
  intro i hi
  rw [BitVec.getLsbD_and, BitVec.getLsbD_and]
  by_cases h8 : i < 8
  · rw [BitVec.getLsbD_ushiftRight, BitVec.getLsbD_sshiftRight]
    have h9 : 8 + i < 32 := by omega
    have h10 : ¬ 32 ≤ i := by omega
    simp [h9, hi, h10]
  · rw [bz h8, Bool.and_false, Bool.and_false]
theorem b_sh0 (x : Int32) : (x.toUInt32 >>> (Int32.toUInt32 0 &&& Int32.toUInt32 31)).toInt32 &&& 255 = (x >>> ((0 : Int32) &&& 31)) &&& 255 := by
  have e1 : (x.toUInt32 >>> (Int32.toUInt32 0 &&& Int32.toUInt32 31)).toInt32.toBitVec = x.toBitVec >>> 0 := rfl
  have e2 : (x >>> ((0 : Int32) &&& 31)).toBitVec = x.toBitVec.sshiftRight 0 := rfl
  apply Int32.toBitVec_inj.mp
  rw [Int32.toBitVec_and, Int32.toBitVec_and, e1, e2]
  apply BitVec.eq_of_getLsbD_eq
  intro i hi
  rw [BitVec.getLsbD_and, BitVec.getLsbD_and]
  by_cases h8 : i < 8
  · rw [BitVec.getLsbD_ushiftRight, BitVec.getLsbD_sshiftRight]
    have h9 : 0 + i < 32 := by omega
    have h10 : ¬ 32 ≤ i := by omega
    simp [h9, hi, h10]
  · rw [bz h8, Bool.and_false, Bool.and_false]
end BITS
