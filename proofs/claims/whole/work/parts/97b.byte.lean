/-! a byte of a number: in both -/
theorem byte_rel (y : Int32) : ∃ b : Int, 0 ≤ b ∧ b < 256 ∧ y &&& iz 255 = iz b ∧ y.toInt8.toInt32 = iz (if b < 128 then b else b - 256) := by
  refine ⟨y.toInt % 256, by omega, by omega, ?_, ?_⟩
  · have e1 : y.toInt % 256 = ((y.toBitVec.toNat % 256 : Nat) : Int) := by
      have h : y.toInt = y.toBitVec.toInt := rfl
      rw [h, BitVec.toInt_eq_toNat_cond]
      have := y.toBitVec.isLt
      split <;> omega
    have e2 : iz 255 = Int32.ofNat 255 := rfl
    rw [e1, ← iz_ofNat, e2]
    apply Int32.toBitVec_inj.mp
    apply BitVec.eq_of_toNat_eq
    simp only [Int32.toBitVec_and, Int32.toBitVec_ofNat', BitVec.toNat_and, BitVec.toNat_ofNat]
    rw [Nat.mod_eq_of_lt (by omega : 255 < 2 ^ 32), Nat.mod_eq_of_lt (by omega : y.toBitVec.toNat % 256 < 2 ^ 32)]
    exact Nat.and_two_pow_sub_one_eq_mod _ 8
  · apply Int32.toInt_inj.mp
    rw [iz_int (by split <;> omega), Int8.toInt_toInt32, Int32.toInt_toInt8, Int.bmod_def]
    split <;> split <;> omega
