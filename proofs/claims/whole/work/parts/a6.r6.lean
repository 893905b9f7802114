theorem and7 (x : Int64) : ∃ b, b < 8 ∧ x &&& Int64.ofNat 7 = Int64.ofNat b ∧ b = x.toBitVec.toNat % 8 := by
  refine ⟨x.toBitVec.toNat % 8, by omega, ?_, rfl⟩
  apply Int64.toBitVec_inj.mp
  apply BitVec.eq_of_toNat_eq
  rw [Int64.toBitVec_and, BitVec.toNat_and]
  have e1 : (Int64.ofNat 7).toBitVec.toNat = 2 ^ 3 - 1 := by decide
  rw [e1, Nat.and_two_pow_sub_one_eq_mod]
  have : (Int64.ofNat (x.toBitVec.toNat % 8)).toBitVec.toNat = x.toBitVec.toNat % 8 := by
    show (BitVec.ofNat 64 (x.toBitVec.toNat % 8)).toNat = _
    rw [BitVec.toNat_ofNat]
    omega
  rw [this]
theorem shr_all : (List.range 16).all (fun k => decide (((nI (3 * k)).toInt64 &&& 63).toBitVec.smod 64 = BitVec.ofNat 64 (3 * k)) && decide ((((3 * nI k).toInt64.toUInt64 &&& Int64.toUInt64 63).toBitVec % 64).toNat = 3 * k)) = true := by decide +kernel
theorem dk_eq (y : Int64) {k : Nat} (hk : k < 16) : ((y.toUInt64 >>> ((3 * nI k).toInt64.toUInt64 &&& Int64.toUInt64 63)).toInt64 &&& Int64.ofNat 7) = (y >>> ((nI (3 * k)).toInt64 &&& 63) &&& Int64.ofNat 7) := by
  have h1 := List.all_eq_true.mp shr_all k (List.mem_range.mpr hk)
  rw [Bool.and_eq_true, decide_eq_true_eq, decide_eq_true_eq] at h1
  apply Int64.toBitVec_inj.mp
  rw [Int64.toBitVec_and, Int64.toBitVec_and, Int64.toBitVec_shiftRight, h1.1]
  have e1 : ((y.toUInt64 >>> ((3 * nI k).toInt64.toUInt64 &&& Int64.toUInt64 63)).toInt64).toBitVec = y.toBitVec >>> (3 * k) := by
    show (y.toUInt64 >>> ((3 * nI k).toInt64.toUInt64 &&& Int64.toUInt64 63)).toBitVec = _
    rw [UInt64.toBitVec_shiftRight]
    show y.toBitVec >>> (((3 * nI k).toInt64.toUInt64 &&& Int64.toUInt64 63).toBitVec % 64) = _
    rw [BitVec.ushiftRight_eq', h1.2]
  rw [e1]
  apply BitVec.eq_of_getLsbD_eq
  intro i hi
  rw [BitVec.getLsbD_and, BitVec.getLsbD_and]
  by_cases h3 : i < 3
  · have e2 : (3 * k) % 18446744073709551616 = 3 * k := by omega
    congr 1
    unfold BitVec.sshiftRight'
    rw [BitVec.toNat_ofNat, e2, BitVec.getLsbD_ushiftRight, BitVec.getLsbD_sshiftRight]
    have e3 : 3 * k + i < 64 := by omega
    simp [e3, hi]
  · have e4 : (Int64.ofNat 7).toBitVec.getLsbD i = false := by
      show (BitVec.ofNat 64 7).getLsbD i = false
      rw [BitVec.getLsbD_ofNat]
      have : Nat.testBit 7 i = false := by
        apply Nat.testBit_lt_two_pow
        calc 7 < 2 ^ 3 := by decide
          _ ≤ 2 ^ i := Nat.pow_le_pow_right (by decide) (by omega)
      rw [this, Bool.and_false]
    rw [e4, Bool.and_false, Bool.and_false]
def dkN (y : Int64) (k : Nat) : Nat := min 4 ((y >>> ((nI (3 * k)).toInt64 &&& 63)).toBitVec.toNat % 8)
theorem dkN_lt (y : Int64) (k : Nat) : dkN y k < 5 := by
  unfold dkN
  omega
theorem dk_m (y : Int64) (k : Nat) : (if (y >>> ((nI (3 * k)).toInt64 &&& 63) &&& Int64.ofNat 7).toInt32 ≤ 4 then (y >>> ((nI (3 * k)).toInt64 &&& 63) &&& Int64.ofNat 7).toInt32 else 4) = nI (dkN y k) := by
  obtain ⟨b, h1, h2, h3⟩ := and7 (y >>> ((nI (3 * k)).toInt64 &&& 63))
  unfold dkN
  rw [h2, ← h3]
  match b, h1 with
  | 0, _ | 1, _ | 2, _ | 3, _ | 4, _ | 5, _ | 6, _ | 7, _ => decide
theorem dk_c (y : Int64) {k : Nat} (hk : k < 16) : (if Int64.ofNat 4 < ((y.toUInt64 >>> ((3 * nI k).toInt64.toUInt64 &&& Int64.toUInt64 63)).toInt64 &&& Int64.ofNat 7) then Int64.ofNat 4 else ((y.toUInt64 >>> ((3 * nI k).toInt64.toUInt64 &&& Int64.toUInt64 63)).toInt64 &&& Int64.ofNat 7)).toInt32 = nI (dkN y k) := by
  obtain ⟨b, h1, h2, h3⟩ := and7 (y >>> ((nI (3 * k)).toInt64 &&& 63))
  unfold dkN
  rw [dk_eq y hk, h2, ← h3]
  match b, h1 with
  | 0, _ | 1, _ | 2, _ | 3, _ | 4, _ | 5, _ | 6, _ | 7, _ => decide
