/-! EVERY CALL KEEPS THE STATE IN ITS BOUNDS -/
theorem kp_255 (y : Int32) : kh_in (y &&& 255) 0 255 := by
  have e : y &&& 255 = nI (y.toBitVec &&& 255#32).toNat := by
    apply Int32.toBitVec_inj.1
    show y.toBitVec &&& 255#32 = BitVec.ofNat 32 (y.toBitVec &&& 255#32).toNat
    rw [BitVec.ofNat_toNat, BitVec.setWidth_eq]
  have h : (y.toBitVec &&& 255#32).toNat ≤ 255 := by
    rw [BitVec.toNat_and, show (255#32).toNat = 255 from by decide +kernel]
    exact Nat.and_le_right
  rw [e]
  exact kh_in_of 255 h (by decide) ki_255
theorem kp_9 {x : Int64} (h : 0 ≤ x ∧ x ≤ 9) : kh_in x.toInt32 0 9 := by
  have h1 : (0 : Int64).toInt ≤ x.toInt := Int64.le_iff_toInt_le.mp h.1
  have h2 : x.toInt ≤ (9 : Int64).toInt := Int64.le_iff_toInt_le.mp h.2
  rw [show (0 : Int64).toInt = 0 from by decide] at h1
  rw [show (9 : Int64).toInt = 9 from by decide] at h2
  have e : x = Int64.ofInt x.toInt := (Int64.ofInt_toInt x).symm
  have hc : x.toInt = 0 ∨ x.toInt = 1 ∨ x.toInt = 2 ∨ x.toInt = 3 ∨ x.toInt = 4 ∨ x.toInt = 5 ∨ x.toInt = 6 ∨ x.toInt = 7 ∨ x.toInt = 8 ∨ x.toInt = 9 := by omega
  rw [e]
  rcases hc with h | h | h | h | h | h | h | h | h | h <;> rw [h] <;> exact ⟨by decide +kernel, by decide +kernel⟩
theorem kp_5 {x : Int32} (h : 0 ≤ x ∧ x < 6) : kh_in x 0 5 := by
  refine ⟨h.1, ?_⟩
  have := h.2
  rw [ki_lt, ki_6] at this
  rw [ki_le, ki_5]
  omega
