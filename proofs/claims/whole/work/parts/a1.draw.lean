/-! What is drawn: 15 bits, the same by both shifts. -/
noncomputable def drN (t : Int32) : Nat := (t.toBitVec.toNat / 2 ^ 16) % 2 ^ 15
theorem drN_lt (t : Int32) : drN t < 32768 := Nat.mod_lt _ (by decide)
theorem m15 (i : Nat) (hi : i < 32) : (32767 : Int32).toBitVec.getLsbD i = decide (i < 15) := (by decide +kernel : ∀ i, i < 32 → (32767 : Int32).toBitVec.getLsbD i = decide (i < 15)) i hi
theorem drN_bit (t : Int32) (i : Nat) (hi : i < 32) : (nI (drN t)).toBitVec.getLsbD i = (decide (i < 15) && t.toBitVec.getLsbD (16 + i)) := by
  have e : (nI (drN t)).toBitVec = BitVec.ofNat 32 (drN t) := rfl
  rw [e, BitVec.getLsbD_ofNat]
  unfold drN
  rw [Nat.testBit_mod_two_pow, Nat.testBit_div_two_pow, decide_eq_true hi, Bool.true_and, Nat.add_comm i 16]
  rfl
theorem drN_u (t : Int32) : (t.toUInt32 >>> (Int32.toUInt32 16 &&& Int32.toUInt32 31)).toInt32 &&& 32767 = nI (drN t) := by
  apply Int32.toBitVec_inj.mp
  apply BitVec.eq_of_getLsbD_eq
  intro i hi
  rw [drN_bit t i hi, Int32.toBitVec_and, BitVec.getLsbD_and, m15 i hi]
  have e : (t.toUInt32 >>> (Int32.toUInt32 16 &&& Int32.toUInt32 31)).toInt32.toBitVec = t.toBitVec >>> 16 := rfl
  rw [e, BitVec.getLsbD_ushiftRight, Bool.and_comm]
theorem drN_s (t : Int32) : t >>> (16 &&& 31) &&& 32767 = nI (drN t) := by
  apply Int32.toBitVec_inj.mp
  apply BitVec.eq_of_getLsbD_eq
  intro i hi
  rw [drN_bit t i hi, Int32.toBitVec_and, BitVec.getLsbD_and, m15 i hi]
  have e : (t >>> (16 &&& 31)).toBitVec = t.toBitVec.sshiftRight 16 := rfl
  rw [e, BitVec.getLsbD_sshiftRight, Bool.and_comm]
  by_cases h : i < 15
  · rw [decide_eq_true h, Bool.true_and, Bool.true_and, if_pos (by omega)]
    simp
    omega
  · rw [decide_eq_false h, Bool.false_and, Bool.false_and]
