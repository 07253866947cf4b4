/-! the other calls -/
theorem by_1 : ∀ y : BitVec 8, (y.signExtend 32).toNat % 256 = y.toNat := by decide +kernel
theorem by_2 (b : BitVec 32) : (b.signExtend 8).toNat = b.toNat % 256 := by
  rw [BitVec.signExtend_eq_setWidth_of_le b (by decide)]
  simp
theorem sg_b (x : Int32) : ∃ m, m < 256 ∧ x &&& 255 = nI m ∧ x.toInt8.toInt32 = tb m := by
  refine ⟨x.toBitVec.toNat % 256, Nat.mod_lt _ (by decide), pk_and x 8 (by decide), ?_⟩
  unfold tb
  refine (sc_eq (b := x.toInt8.toInt32) (by simp) (Nat.mod_lt _ (by decide))).mpr ?_
  rw [pk_and _ 8 (by decide)]
  have : x.toInt8.toInt32.toBitVec.toNat % 2 ^ 8 = x.toBitVec.toNat % 256 := by
    have h1 : x.toInt8.toInt32.toBitVec = (x.toBitVec.signExtend 8).signExtend 32 := rfl
    rw [h1]
    exact (by_1 _).trans (by_2 _)
  rw [this]
