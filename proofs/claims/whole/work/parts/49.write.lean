/-! ===== numbers cut to their sort ===== -/
set_option maxRecDepth 16384 in
theorem s64 : ∀ k, k < 64 → ((lN k).toBitVec.smod 64).toNat = k := by decide +kernel
set_option maxRecDepth 16384 in
theorem b64_shl {k : Nat} (hk : k < 64) (v : Int64) {i : Nat} (hi : i < 64) : (v <<< lN k).toBitVec.getLsbD i = (decide (k ≤ i) && v.toBitVec.getLsbD (i - k)) := by
  rw [Int64.toBitVec_shiftLeft]
  show (v.toBitVec <<< ((lN k).toBitVec.smod 64).toNat).getLsbD i = _
  rw [s64 k hk, BitVec.getLsbD_shiftLeft]
  rcases Nat.lt_or_ge i k with h | h
  · simp [h, Nat.not_le.mpr h]
  · simp [hi, h, Nat.not_lt.mpr h]
set_option maxRecDepth 16384 in
theorem b64_sshr {k : Nat} (hk : k < 64) (v : Int64) {i : Nat} (hi : i < 64) : (v >>> lN k).toBitVec.getLsbD i = if k + i < 64 then v.toBitVec.getLsbD (k + i) else v.toBitVec.getLsbD 63 := by
  rw [Int64.toBitVec_shiftRight]
  show (v.toBitVec.sshiftRight ((lN k).toBitVec.smod 64).toNat).getLsbD i = _
  rw [s64 k hk, BitVec.getLsbD_sshiftRight, BitVec.msb_eq_getLsbD_last]
  simp [hi]
set_option maxRecDepth 16384 in
theorem b64_cut {k : Nat} (hk : k < 64) (v : Int64) {i : Nat} (hi : i < 64) : ((v <<< lN k) >>> lN k).toBitVec.getLsbD i = v.toBitVec.getLsbD (if i < 64 - k then i else 63 - k) := by
  rw [b64_sshr hk _ hi]
  by_cases h : k + i < 64
  · rw [if_pos h, b64_shl hk v h, if_pos (by omega), show k + i - k = i by omega]
    simp
  · rw [if_neg h, b64_shl hk v (by omega), if_neg (by omega)]
    simp
    omega
set_option maxRecDepth 16384 in
theorem cut3 (v : Int64) : (v <<< lN 0) >>> lN 0 = v := Int64.toBitVec_inj.mp (BitVec.eq_of_getLsbD_eq (fun i hi => by
  rw [b64_cut (by omega) v hi, if_pos (by omega)]))
set_option maxRecDepth 16384 in
theorem cut2 (v : Int64) : (v <<< lN 32) >>> lN 32 = v.toInt32.toInt64 := Int64.toBitVec_inj.mp (BitVec.eq_of_getLsbD_eq (fun i hi => by
  rw [b64_cut (by omega) v hi, Int32.toBitVec_toInt64, Int64.toBitVec_toInt32]
  by_cases h : i < 32
  · have h1 : i < 32 := by omega
    have h2 : i < 64 := by omega
    simp (disch := omega) only [BitVec.getLsbD_signExtend, BitVec.msb_eq_getLsbD_last, if_pos, if_neg, decide_eq_true, Bool.true_and, Nat.reduceSub]
  · by_cases h1 : i < 32
    · simp (disch := omega) only [BitVec.getLsbD_signExtend, BitVec.msb_eq_getLsbD_last, if_pos, if_neg, decide_eq_true, Bool.true_and, Nat.reduceSub]
    · simp (disch := omega) only [BitVec.getLsbD_signExtend, BitVec.msb_eq_getLsbD_last, if_pos, if_neg, decide_eq_true, Bool.true_and, Nat.reduceSub]))
set_option maxRecDepth 16384 in
theorem cut1 (v : Int64) : (v <<< lN 48) >>> lN 48 = v.toInt32.toInt16.toInt32.toInt64 := Int64.toBitVec_inj.mp (BitVec.eq_of_getLsbD_eq (fun i hi => by
  rw [b64_cut (by omega) v hi, Int32.toBitVec_toInt64, Int16.toBitVec_toInt32, Int32.toBitVec_toInt16, Int64.toBitVec_toInt32]
  by_cases h : i < 16
  · have h1 : i < 32 := by omega
    have h2 : i < 64 := by omega
    simp (disch := omega) only [BitVec.getLsbD_signExtend, BitVec.msb_eq_getLsbD_last, if_pos, if_neg, decide_eq_true, Bool.true_and, Nat.reduceSub]
  · by_cases h1 : i < 32
    · simp (disch := omega) only [BitVec.getLsbD_signExtend, BitVec.msb_eq_getLsbD_last, if_pos, if_neg, decide_eq_true, Bool.true_and, Nat.reduceSub]
    · simp (disch := omega) only [BitVec.getLsbD_signExtend, BitVec.msb_eq_getLsbD_last, if_pos, if_neg, decide_eq_true, Bool.true_and, Nat.reduceSub]))
set_option maxRecDepth 16384 in
theorem cut0 (v : Int64) : (v <<< lN 56) >>> lN 56 = v.toInt32.toInt8.toInt32.toInt64 := Int64.toBitVec_inj.mp (BitVec.eq_of_getLsbD_eq (fun i hi => by
  rw [b64_cut (by omega) v hi, Int32.toBitVec_toInt64, Int8.toBitVec_toInt32, Int32.toBitVec_toInt8, Int64.toBitVec_toInt32]
  by_cases h : i < 8
  · have h1 : i < 32 := by omega
    have h2 : i < 64 := by omega
    simp (disch := omega) only [BitVec.getLsbD_signExtend, BitVec.msb_eq_getLsbD_last, if_pos, if_neg, decide_eq_true, Bool.true_and, Nat.reduceSub]
  · by_cases h1 : i < 32
    · simp (disch := omega) only [BitVec.getLsbD_signExtend, BitVec.msb_eq_getLsbD_last, if_pos, if_neg, decide_eq_true, Bool.true_and, Nat.reduceSub]
    · simp (disch := omega) only [BitVec.getLsbD_signExtend, BitVec.msb_eq_getLsbD_last, if_pos, if_neg, decide_eq_true, Bool.true_and, Nat.reduceSub]))
