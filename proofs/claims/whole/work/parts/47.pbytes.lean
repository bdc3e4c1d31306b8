/-! append: the bytes of a word -/
def pu_bt (x s : Int32) : Int32 := ((x.toUInt32 >>> (s.toUInt32 &&& Int32.toUInt32 31)).toInt32) &&& 255
theorem pu_b255 : ∀ i : Nat, i < 32 → (255#32).getLsbD i = decide (i < 8) := by decide
theorem pu_bt24 (x : Int32) : (x >>> ((24 : Int32) &&& 31)) &&& 255 = pu_bt x 24 := by
  unfold pu_bt
  refine Int32.toBitVec_inj.1 ?_
  refine BitVec.eq_of_getLsbD_eq fun i hi => ?_
  show (BitVec.sshiftRight x.toBitVec 24 &&& 255#32).getLsbD i = ((x.toBitVec >>> 24) &&& 255#32).getLsbD i
  rw [BitVec.getLsbD_and, BitVec.getLsbD_and, pu_b255 i hi, BitVec.getLsbD_sshiftRight, BitVec.getLsbD_ushiftRight]
  by_cases h : i < 8
  · simp [h, show ¬ 32 ≤ i by omega, show 24 + i < 32 by omega]
  · simp [h]
theorem pu_bt16 (x : Int32) : (x >>> ((16 : Int32) &&& 31)) &&& 255 = pu_bt x 16 := by
  unfold pu_bt
  refine Int32.toBitVec_inj.1 ?_
  refine BitVec.eq_of_getLsbD_eq fun i hi => ?_
  show (BitVec.sshiftRight x.toBitVec 16 &&& 255#32).getLsbD i = ((x.toBitVec >>> 16) &&& 255#32).getLsbD i
  rw [BitVec.getLsbD_and, BitVec.getLsbD_and, pu_b255 i hi, BitVec.getLsbD_sshiftRight, BitVec.getLsbD_ushiftRight]
  by_cases h : i < 8
  · simp [h, show ¬ 32 ≤ i by omega, show 16 + i < 32 by omega]
  · simp [h]
theorem pu_bt8 (x : Int32) : (x >>> ((8 : Int32) &&& 31)) &&& 255 = pu_bt x 8 := by
  unfold pu_bt
  refine Int32.toBitVec_inj.1 ?_
  refine BitVec.eq_of_getLsbD_eq fun i hi => ?_
  show (BitVec.sshiftRight x.toBitVec 8 &&& 255#32).getLsbD i = ((x.toBitVec >>> 8) &&& 255#32).getLsbD i
  rw [BitVec.getLsbD_and, BitVec.getLsbD_and, pu_b255 i hi, BitVec.getLsbD_sshiftRight, BitVec.getLsbD_ushiftRight]
  by_cases h : i < 8
  · simp [h, show ¬ 32 ≤ i by omega, show 8 + i < 32 by omega]
  · simp [h]
theorem pu_bt0 (x : Int32) : (x >>> ((0 : Int32) &&& 31)) &&& 255 = pu_bt x 0 := by
  unfold pu_bt
  refine Int32.toBitVec_inj.1 ?_
  refine BitVec.eq_of_getLsbD_eq fun i hi => ?_
  show (BitVec.sshiftRight x.toBitVec 0 &&& 255#32).getLsbD i = ((x.toBitVec >>> 0) &&& 255#32).getLsbD i
  rw [BitVec.getLsbD_and, BitVec.getLsbD_and, pu_b255 i hi, BitVec.getLsbD_sshiftRight, BitVec.getLsbD_ushiftRight]
  by_cases h : i < 8
  · simp [h, show ¬ 32 ≤ i by omega, show 0 + i < 32 by omega]
  · simp [h]
theorem pu_byte (y : Int32) : ∃ n : Nat, n ≤ 255 ∧ y &&& 255 = kn n := by
  refine ⟨(y &&& 255).toBitVec.toNat, ?_, ?_⟩
  · show (y.toBitVec &&& 255#32).toNat ≤ 255
    rw [BitVec.toNat_and]
    exact Nat.and_le_right
  · refine Int32.toBitVec_inj.1 ?_
    show (y &&& 255).toBitVec = BitVec.ofNat 32 (y &&& 255).toBitVec.toNat
    rw [BitVec.ofNat_toNat, BitVec.setWidth_eq]
theorem pu_trunc (y : Int32) : (((y.toInt8.toInt32).toInt8.toInt32) &&& 255) = y &&& 255 := by
  refine Int32.toBitVec_inj.1 ?_
  refine BitVec.eq_of_getLsbD_eq fun i hi => ?_
  show ((BitVec.signExtend 32 (BitVec.signExtend 8 (BitVec.signExtend 32 (BitVec.signExtend 8 y.toBitVec)))) &&& 255#32).getLsbD i = (y.toBitVec &&& 255#32).getLsbD i
  rw [BitVec.getLsbD_and, BitVec.getLsbD_and, pu_b255 i hi]
  by_cases h : i < 8
  · have a1 : ∀ z : BitVec 8, (BitVec.signExtend 32 z).getLsbD i = z.getLsbD i := fun z => by
      rw [BitVec.getLsbD_signExtend, if_pos h, decide_eq_true hi, Bool.true_and]
    have a2 : ∀ z : BitVec 32, (BitVec.signExtend 8 z).getLsbD i = z.getLsbD i := fun z => by
      rw [BitVec.getLsbD_signExtend, if_pos hi, decide_eq_true h, Bool.true_and]
    rw [a1, a2, a1, a2]
  · simp [h]
theorem pu_trunc2 (y : Int32) : ((y.toInt8.toInt32).toInt8.toInt32) = (y &&& 255).toInt8.toInt32 := by
  refine Int32.toBitVec_inj.1 ?_
  show BitVec.signExtend 32 (BitVec.signExtend 8 (BitVec.signExtend 32 (BitVec.signExtend 8 y.toBitVec))) = BitVec.signExtend 32 (BitVec.signExtend 8 (y.toBitVec &&& 255#32))
  refine congrArg (BitVec.signExtend 32) (BitVec.eq_of_getLsbD_eq fun i h => ?_)
  have hi : i < 32 := by omega
  have a1 : ∀ z : BitVec 8, (BitVec.signExtend 32 z).getLsbD i = z.getLsbD i := fun z => by
    rw [BitVec.getLsbD_signExtend, if_pos h, decide_eq_true hi, Bool.true_and]
  have a2 : ∀ z : BitVec 32, (BitVec.signExtend 8 z).getLsbD i = z.getLsbD i := fun z => by
    rw [BitVec.getLsbD_signExtend, if_pos hi, decide_eq_true h, Bool.true_and]
  rw [a2, a1, a2, a2, BitVec.getLsbD_and, pu_b255 i hi, decide_eq_true h, Bool.and_true]
theorem pu_b8 : ∀ b : Nat, b < 256 → ((kn b).toInt8.toInt32 &&& 255) = kn b := by decide +kernel
theorem pu_b7 : ∀ b : Nat, b < 128 → (kn b).toInt8.toInt32 = kn b := by decide +kernel
