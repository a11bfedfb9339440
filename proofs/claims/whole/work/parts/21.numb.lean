/-! small facts of numbers -/
def kq_b (b : Bool) : Int32 := if b then 1 else 0
theorem kq_b01' (b : Bool) : kq_b b = 0 ∨ kq_b b = 1 := by cases b <;> simp [kq_b]
theorem kq_b_f {b : Bool} (h : kq_b b = 0) : b = false := by
  cases b
  · rfl
  · exact absurd h (by decide)
theorem kq_b_t {b : Bool} (h : ¬ kq_b b = 0) : b = true := by
  cases b
  · exact absurd rfl h
  · rfl
theorem ki_lt (a b : Int32) : a < b ↔ a.toInt < b.toInt := Int32.lt_iff_toInt_lt
theorem ki_le (a b : Int32) : a ≤ b ↔ a.toInt ≤ b.toInt := Int32.le_iff_toInt_le
theorem ki_eq (a b : Int32) : a = b ↔ a.toInt = b.toInt := Int32.toInt_inj.symm
theorem ki_add {a b : Int32} (h1 : -1073741824 ≤ a.toInt ∧ a.toInt < 1073741824) (h2 : -1073741824 ≤ b.toInt ∧ b.toInt < 1073741824) : (a + b).toInt = a.toInt + b.toInt := by
  rw [Int32.toInt_add]
  exact Int.bmod_eq_of_le (by omega) (by omega)
theorem ki_sub {a b : Int32} (h1 : -1073741824 ≤ a.toInt ∧ a.toInt < 1073741824) (h2 : -1073741824 ≤ b.toInt ∧ b.toInt < 1073741824) : (a - b).toInt = a.toInt - b.toInt := by
  rw [Int32.toInt_sub]
  exact Int.bmod_eq_of_le (by omega) (by omega)
theorem ki_neg {a : Int32} (h1 : -1073741824 ≤ a.toInt ∧ a.toInt < 1073741824) : (-a).toInt = -a.toInt := by
  rw [Int32.toInt_neg]
  exact Int.bmod_eq_of_le (by omega) (by omega)
theorem ki_div2 {a : Int32} (h : 0 ≤ a.toInt) : (a / 2).toInt = a.toInt / 2 := by
  obtain ⟨n, hn, rfl⟩ := nI_of (x := a) (by rw [ki_lt, show (0 : Int32).toInt = 0 from by decide]; omega)
  rw [show (2 : Int32) = nI 2 from by decide, pk_div hn (by decide) (by decide), nI_toInt hn, nI_toInt (by omega)]
  rfl
theorem kn_lit (n : Nat) (h : n < 2 ^ 31) : (nI n).toInt = (n : Int) := nI_toInt h
theorem ki_0 : (0 : Int32).toInt = 0 := by decide
theorem ki_1 : (1 : Int32).toInt = 1 := by decide
theorem ki_2 : (2 : Int32).toInt = 2 := by decide
theorem ki_3 : (3 : Int32).toInt = 3 := by decide
theorem ki_4 : (4 : Int32).toInt = 4 := by decide
theorem ki_5 : (5 : Int32).toInt = 5 := by decide
theorem ki_6 : (6 : Int32).toInt = 6 := by decide
theorem ki_7 : (7 : Int32).toInt = 7 := by decide
theorem ki_8 : (8 : Int32).toInt = 8 := by decide
theorem ki_9 : (9 : Int32).toInt = 9 := by decide
theorem ki_15 : (15 : Int32).toInt = 15 := by decide
theorem ki_20 : (20 : Int32).toInt = 20 := by decide
theorem ki_40 : (40 : Int32).toInt = 40 := by decide
theorem ki_60 : (60 : Int32).toInt = 60 := by decide
theorem ki_99 : (99 : Int32).toInt = 99 := by decide
theorem ki_100 : (100 : Int32).toInt = 100 := by decide
theorem ki_120 : (120 : Int32).toInt = 120 := by decide
theorem ki_200 : (200 : Int32).toInt = 200 := by decide
theorem ki_255 : (255 : Int32).toInt = 255 := by decide
theorem ki_9999 : (9999 : Int32).toInt = 9999 := by decide
theorem ki_m1 : (-1 : Int32).toInt = -1 := by decide
/-- a number within bounds, as integers -/
theorem kh_in_iff {x lo hi : Int32} : kh_in x lo hi ↔ lo.toInt ≤ x.toInt ∧ x.toInt ≤ hi.toInt := by
  unfold kh_in
  rw [ki_le, ki_le]
theorem kh_clamp_in {x lo hi : Int32} (h : lo ≤ hi) : kh_in (kh_clamp x lo hi) lo hi := by
  unfold kh_clamp kh_in
  rw [ki_le] at h
  split
  · exact ⟨by rw [ki_le]; omega, by rw [ki_le]; exact h⟩
  · next h1 =>
    rw [ki_lt] at h1
    split
    · exact ⟨by rw [ki_le]; exact h, by rw [ki_le]; omega⟩
    · next h2 =>
      rw [ki_lt] at h2
      exact ⟨by rw [ki_le]; omega, by rw [ki_le]; omega⟩
theorem kh_mm99 (s : Int32) : (if (0 : Int32) < (if s < 99 then s else 99) then (if s < 99 then s else 99) else 0) = kh_clamp s 0 99 := by
  unfold kh_clamp
  simp only [ki_lt, ki_0, ki_99]
  by_cases h1 : s.toInt < 99
  · rw [if_pos h1]
    by_cases h2 : 0 < s.toInt
    · rw [if_pos h2, if_neg (by omega), if_neg (by omega)]
    · rw [if_neg h2]
      by_cases h3 : s.toInt < 0
      · rw [if_pos h3]
      · rw [if_neg h3, if_neg (by omega)]
        exact (ki_eq _ _).mpr (by rw [ki_0]; omega)
  · rw [if_neg h1, ki_99, if_pos (by omega), if_neg (by omega)]
    by_cases h3 : 99 < s.toInt
    · rw [if_pos h3]
    · rw [if_neg h3]
      exact (ki_eq _ _).mpr (by rw [ki_99]; omega)
theorem kh_min9999 {s : Int32} (h : 0 ≤ s.toInt) : (if s < 9999 then s else 9999) = kh_clamp s 0 9999 := by
  unfold kh_clamp
  simp only [ki_lt, ki_0, ki_9999]
  rw [if_neg (show ¬ s.toInt < 0 by omega)]
  by_cases h1 : s.toInt < 9999
  · rw [if_pos h1, if_neg (by omega)]
  · rw [if_neg h1]
    by_cases h3 : 9999 < s.toInt
    · rw [if_pos h3]
    · rw [if_neg h3]
      exact (ki_eq _ _).mpr (by rw [ki_9999]; omega)
theorem kh_max0 {s hi : Int32} (h : s.toInt ≤ hi.toInt) (h0 : 0 ≤ hi.toInt) : (if (0 : Int32) < s then s else 0) = kh_clamp s 0 hi := by
  unfold kh_clamp
  simp only [ki_lt, ki_0]
  by_cases h1 : 0 < s.toInt
  · rw [if_pos h1, if_neg (by omega), if_neg (by omega)]
  · rw [if_neg h1]
    by_cases h3 : s.toInt < 0
    · rw [if_pos h3]
    · rw [if_neg h3, if_neg (by omega)]
      exact (ki_eq _ _).mpr (by rw [ki_0]; omega)
theorem kh_in_nI {x : Int32} {n : Nat} {hi : Int32} (h : kh_in x 0 hi) (hh : hi.toInt = n) : ∃ j : Nat, j ≤ n ∧ x = nI j := by
  rw [kh_in_iff, ki_0, hh] at h
  obtain ⟨j, hj, rfl⟩ := nI_of (x := x) (by rw [ki_lt, ki_0]; omega)
  rw [nI_toInt hj] at h
  exact ⟨j, by omega, rfl⟩
