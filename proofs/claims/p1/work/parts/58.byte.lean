/-! A byte of a long, by >> or by >>>. -/
theorem byte_bv (x : BitVec 64) (n : Nat) (hn : n ≤ 56) : (x >>> n).signExtend 32 &&& 255#32 = (x.sshiftRight n).signExtend 32 &&& 255#32 := by
  apply BitVec.eq_of_getLsbD_eq
  intro i hi
  by_cases h8 : i < 8
  · have h1 : n + i < 64 := by omega
    have h64 : i < 64 := by omega
    have e1 : (BitVec.signExtend 32 (x >>> n)).getLsbD i = x.getLsbD (n + i) := by
      rw [BitVec.getLsbD_signExtend, if_pos h64, BitVec.getLsbD_ushiftRight, decide_eq_true hi, Bool.true_and]
    have e2 : (BitVec.signExtend 32 (x.sshiftRight n)).getLsbD i = x.getLsbD (n + i) := by
      rw [BitVec.getLsbD_signExtend, if_pos h64, BitVec.getLsbD_sshiftRight, decide_eq_true hi, Bool.true_and, if_pos h1]
      have h3 : decide (64 ≤ i) = false := decide_eq_false (by omega)
      rw [h3, Bool.not_false, Bool.true_and]
    rw [BitVec.getLsbD_and, BitVec.getLsbD_and, e1, e2]
  · have h2 : (255#32).getLsbD i = false := by
      rw [BitVec.getLsbD_ofNat]
      have : Nat.testBit 255 i = false := Nat.testBit_lt_two_pow (Nat.lt_of_lt_of_le (by decide : 255 < 2 ^ 8) (Nat.pow_le_pow_right (by decide) (by omega)))
      simp [this]
    simp [h2]
def mb (a : Int64) (s : Int32) : Int32 := (Int64.toInt32 (a >>> (Int32.toInt64 s &&& 63))) &&& (255 : Int32)
def cb (a : Int64) (s : Int32) : Int32 := (Int64.toInt32 ((Int64.toUInt64 a >>> ((Int32.toInt64 s).toUInt64 &&& Int64.toUInt64 63)).toInt64)) &&& (255 : Int32)
def sh (m : Nat) : Int32 := Int32.ofNat (8 * m) - 8
theorem cb_s (a : Int64) (s : Int32) (n : Nat) (hn : n ≤ 56) (hu : (((Int32.toInt64 s).toUInt64 &&& Int64.toUInt64 63).toBitVec % 64#64).toNat = n) (hi : ((Int32.toInt64 s &&& 63).toBitVec.smod 64#64).toNat = n) : cb a s = mb a s := by
  apply Int32.toBitVec_inj.mp
  have h1 : (cb a s).toBitVec = (a.toBitVec >>> n).signExtend 32 &&& 255#32 := by
    unfold cb
    rw [Int32.toBitVec_and, Int64.toBitVec_toInt32]
    show BitVec.signExtend 32 ((Int64.toUInt64 a >>> ((Int32.toInt64 s).toUInt64 &&& Int64.toUInt64 63)).toBitVec) &&& 255#32 = _
    rw [UInt64.toBitVec_shiftRight]
    show BitVec.signExtend 32 (a.toBitVec >>> (((Int32.toInt64 s).toUInt64 &&& Int64.toUInt64 63).toBitVec % 64#64).toNat) &&& 255#32 = _
    rw [hu]
  have h2 : (mb a s).toBitVec = (a.toBitVec.sshiftRight n).signExtend 32 &&& 255#32 := by
    unfold mb
    rw [Int32.toBitVec_and, Int64.toBitVec_toInt32, Int64.toBitVec_shiftRight]
    show BitVec.signExtend 32 (a.toBitVec.sshiftRight ((Int32.toInt64 s &&& 63).toBitVec.smod 64#64).toNat) &&& 255#32 = _
    rw [hi]
  rw [h1, h2]
  exact byte_bv _ n hn
theorem cb_mb (a : Int64) : ∀ m, m < 8 → cb a (sh (m + 1)) = mb a (sh (m + 1)) := by
  intro m hm
  have h : ∀ m, m < 8 → (((Int32.toInt64 (sh (m + 1))).toUInt64 &&& Int64.toUInt64 63).toBitVec % 64#64).toNat = 8 * m ∧ ((Int32.toInt64 (sh (m + 1)) &&& 63).toBitVec.smod 64#64).toNat = 8 * m := by decide +kernel
  exact cb_s a _ (8 * m) (by omega) (h m hm).1 (h m hm).2
theorem sh_pos : ∀ m, m < 8 → ¬ sh (m + 1) < 0 := by decide +kernel
theorem sh_dn : ∀ m, m < 8 → sh (m + 1) + (-8 : Int32) = sh m := by decide +kernel
theorem sh_0 : sh 0 < 0 := by decide +kernel
theorem sh_8 : (56 : Int32) = sh 8 := by decide +kernel
