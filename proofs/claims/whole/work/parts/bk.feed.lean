/-! ===== feed ===== -/
theorem byte_n (v : Int32) (k : Int32) : ∃ b, b < 256 ∧ (v >>> k) &&& nI 255 = nI b := by
  generalize v >>> k = x
  refine ⟨(x.toBitVec &&& 255#32).toNat, ?_, ?_⟩
  · have h : (x.toBitVec &&& 255#32).toNat = x.toBitVec.toNat &&& 255 := BitVec.toNat_and ..
    rw [h]
    exact Nat.lt_of_le_of_lt Nat.and_le_right (by omega)
  · apply Int32.toBitVec_inj.mp
    show x.toBitVec &&& (255 : BitVec 32) = BitVec.ofNat 32 (x.toBitVec &&& 255#32).toNat
    rw [BitVec.ofNat_toNat]
    simp
