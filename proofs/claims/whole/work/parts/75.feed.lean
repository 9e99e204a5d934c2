/-! Feeding the tape. -/
theorem z_and255 (x : Int32) : 0 ≤ (x &&& 255).toInt ∧ (x &&& 255).toInt ≤ 255 := by
  have e1 : x = Int32.ofNat x.toBitVec.toNat := by
    apply Int32.toBitVec_inj.1
    show x.toBitVec = BitVec.ofNat 32 x.toBitVec.toNat
    rw [BitVec.ofNat_toNat, BitVec.setWidth_eq]
  have e2 : Int32.ofNat x.toBitVec.toNat &&& Int32.ofNat (2 ^ 8 - 1) = Int32.ofNat (x.toBitVec.toNat &&& (2 ^ 8 - 1)) := by
    apply Int32.toBitVec_inj.1
    show BitVec.ofNat 32 x.toBitVec.toNat &&& BitVec.ofNat 32 (2 ^ 8 - 1) = BitVec.ofNat 32 (x.toBitVec.toNat &&& (2 ^ 8 - 1))
    apply BitVec.eq_of_getLsbD_eq
    intro i hi
    simp only [BitVec.getLsbD_and, BitVec.getLsbD_ofNat, hi, decide_true, Bool.true_and, Nat.testBit_and]
  have e3 : (x &&& 255) = Int32.ofNat (x.toBitVec.toNat % 2 ^ 8) := by
    rw [← Nat.and_two_pow_sub_one_eq_mod, ← e2, ← e1]; rfl
  rw [e3, Int32.toInt_ofNat', z_bm (by omega) (by omega)]
  omega
theorem z_byte (x : Int32) : x.toInt8.toInt32 &&& 255 = x &&& 255 := by
  apply Int32.toBitVec_inj.1
  show (x.toBitVec.signExtend 8).signExtend 32 &&& 255#32 = x.toBitVec &&& 255#32
  apply BitVec.eq_of_getLsbD_eq
  intro i hi
  simp only [BitVec.getLsbD_and]
  by_cases h : i < 8
  · simp only [BitVec.getLsbD_signExtend, h, hi, decide_true, Bool.true_and, if_true, show i < 32 from hi]
  · have : (255#32).getLsbD i = false := by
      show (255 % 2 ^ 32).testBit i = false
      exact Nat.testBit_lt_two_pow (Nat.lt_of_lt_of_le (show 255 % 2 ^ 32 < 2 ^ 8 by decide) (Nat.pow_le_pow_right (by decide) (by omega)))
    rw [this, Bool.and_false, Bool.and_false]
