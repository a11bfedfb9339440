/-! an answer, a minute, keep a hall what it may be -/
theorem kn_or (a b : Nat) : nI a ||| nI b = nI (a ||| b) := by
  apply Int32.toBitVec_inj.1
  show BitVec.ofNat 32 a ||| BitVec.ofNat 32 b = BitVec.ofNat 32 (a ||| b)
  apply BitVec.eq_of_getLsbD_eq
  intro i hi
  simp [hi]
theorem kn_and (a b : Nat) : nI a &&& nI b = nI (a &&& b) := by
  apply Int32.toBitVec_inj.1
  show BitVec.ofNat 32 a &&& BitVec.ofNat 32 b = BitVec.ofNat 32 (a &&& b)
  apply BitVec.eq_of_getLsbD_eq
  intro i hi
  simp [hi]
theorem kn_shl {f : Nat} (h : f < 8) : (1 : Int32) <<< (nI f &&& 31) = nI (2 ^ f) := by
  have : ∀ f, f < 8 → (1 : Int32) <<< (nI f &&& 31) = nI (2 ^ f) := by decide
  exact this f h
theorem kh_in_of {n : Nat} {hi : Int32} (m : Nat) (h : n ≤ m) (hm : m < 2 ^ 31) (hh : hi.toInt = m) : kh_in (nI n) 0 hi := by
  rw [kh_in_iff, ki_0, nI_toInt (by omega), hh]
  omega
theorem kh_or255 {x : Int32} {f : Nat} (h : kh_in x 0 255) (hf : f < 8) : kh_in (x ||| ((1 : Int32) <<< (nI f &&& 31))) 0 255 := by
  obtain ⟨a, ha, rfl⟩ := kh_in_nI h (n := 255) ki_255
  rw [kn_shl hf, kn_or]
  have h1 : a ||| 2 ^ f < 2 ^ 8 := Nat.or_lt_two_pow (by omega) (Nat.pow_lt_pow_of_lt (by decide) hf)
  exact kh_in_of 255 (by omega) (by decide) ki_255
theorem kh_div2_in {x hi : Int32} (h : kh_in x 0 hi) : kh_in (x / 2) 0 hi := by
  rw [kh_in_iff, ki_0] at h ⊢
  rw [ki_div2 h.1]
  omega
theorem kh_up_in {f : Nat → Int32} {c w : Nat} {x lo hi : Int32} (h : ∀ j, j < c → kh_in (f j) lo hi) (hx : kh_in x lo hi) : ∀ j, j < c → kh_in (kh_up f w x j) lo hi := by
  intro j hj
  unfold kh_up
  split
  · exact hx
  · exact h j hj
theorem kh_heat_bd {v : kh_S} {w f : Nat} (hv : kh_ok v) (hw : w < kh_c v) : -1000 ≤ (kh_heat v w f).toInt ∧ (kh_heat v w f).toInt ≤ 1000 := by
  have hu := hv.2.2.2.2.2.2.2.2.2.2 w hw
  rw [kh_in_iff, ki_0, ki_9] at hu
  have p0 : 0 ≤ (kh_plain v w f).toInt ∧ (kh_plain v w f).toInt ≤ 10 := by
    unfold kh_plain
    split
    · rw [ki_add (by rw [ki_1]; omega) (by omega), ki_1]; omega
    · split
      · rw [ki_div2 hu.1]; omega
      · rw [ki_0]; omega
  have p1 : 0 ≤ (kh_plumb v w f).toInt ∧ (kh_plumb v w f).toInt ≤ 15 := by
    unfold kh_plumb
    split
    · rw [ki_add (by omega) (by rw [ki_5]; omega), ki_5]; omega
    · omega
  have p2 : 0 ≤ (kh_wife v w f).toInt ∧ (kh_wife v w f).toInt ≤ 11 := by
    unfold kh_wife
    split
    · rw [ki_add (by omega) (by rw [ki_1]; omega), ki_1]; omega
    · omega
  unfold kh_heat
  split
  · omega
  split
  · omega
  split
  · rw [ki_neg (by omega)]; omega
  split
  · have hd := ki_div2 p1.1
    have hb : 0 ≤ (if kh_bit (kh_wrong v w) f then (1 : Int32) else 0).toInt ∧ (if kh_bit (kh_wrong v w) f then (1 : Int32) else 0).toInt ≤ 1 := by
      split
      · rw [ki_1]; omega
      · rw [ki_0]; omega
    rw [ki_add (by omega) (by omega)]
    omega
  split
  · split
    · rw [ki_0]; omega
    · omega
  · omega
theorem kh_ans_ok {v : kh_S} {w f : Nat} (hv : kh_ok v) (hw : w < kh_c v) (hf : f < 8) : kh_ok (kh_ans v w f) := by
  obtain ⟨h1, h2, h3, h4, h5, h6, h7, h8, h9, h10, h11⟩ := hv
  have hh : kh_in (kh_h1 v w f) 0 99 := kh_clamp_in (by decide)
  refine ⟨h1, h2, ?_, ?_, h5, ?_, h7, h8, ?_, h10, ?_⟩
  · show kh_in (if kh_boil v w f then kh_h1 v w f / 2 else kh_h1 v w f) 0 99
    split
    · exact kh_div2_in hh
    · exact hh
  · show kh_in (if kh_boil v w f then kh_W v - 4 else kh_W v) 0 99
    split
    · next hb =>
      have h4' := (of_decide_eq_true hb).2
      rw [kh_in_iff, ki_0, ki_99] at h4 ⊢
      rw [ki_le, ki_4] at h4'
      rw [ki_sub (by omega) (by rw [ki_4]; omega), ki_4]
      omega
    · exact h4
  · show kh_in (if kh_boil v w f then kh_clamp (kh_E v + 2) 0 9999 else kh_E v) 0 9999
    split
    · exact kh_clamp_in (by decide)
    · exact h6
  · show ∀ j, j < kh_c v → kh_in ((if kh_learn v w f then kh_up (kh_n v) w (kh_n v w ||| ((1 : Int32) <<< (nI f &&& 31))) else kh_n v) j) 0 255
    split
    · exact kh_up_in h9 (kh_or255 (h9 w hw) hf)
    · exact h9
  · show ∀ j, j < kh_c v → kh_in ((if kh_boil v w f then kh_up (kh_u v) w (kh_clamp (kh_u v w - kh_doubt (kh_k v w)) 0 9) else kh_u v) j) 0 9
    split
    · exact kh_up_in h11 (kh_clamp_in (by decide))
    · exact h11
theorem kh_setM_ok {v : kh_S} {m : Nat} (hv : kh_ok v) (hm : m < 1000000) : kh_ok (kh_setM v m) := by
  obtain ⟨h1, h2, h3, h4, h5, h6, h7, h8⟩ := hv
  exact ⟨h1, h2, h3, h4, h5, h6, hm, h8⟩
theorem kh_setH_ok {v : kh_S} {x : Int32} (hv : kh_ok v) (hx : kh_in x 0 99) : kh_ok (kh_setH v x) := by
  obtain ⟨h1, h2, h3, h4, h5, h6, h7, h8⟩ := hv
  exact ⟨h1, h2, hx, h4, h5, h6, h7, h8⟩
theorem kh_setW_ok {v : kh_S} {x : Int32} (hv : kh_ok v) (hx : kh_in x 0 99) : kh_ok (kh_setW v x) := by
  obtain ⟨h1, h2, h3, h4, h5, h6, h7, h8⟩ := hv
  exact ⟨h1, h2, h3, hx, h5, h6, h7, h8⟩
theorem kh_setB_ok {v : kh_S} {x : Int32} (hv : kh_ok v) (hx : kh_in x 1 99) : kh_ok (kh_setB v x) := by
  obtain ⟨h1, h2, h3, h4, h5, h6, h7, h8⟩ := hv
  exact ⟨h1, h2, h3, h4, hx, h6, h7, h8⟩
theorem kh_setE_ok {v : kh_S} {x : Int32} (hv : kh_ok v) (hx : kh_in x 0 9999) : kh_ok (kh_setE v x) := by
  obtain ⟨h1, h2, h3, h4, h5, h6, h7, h8⟩ := hv
  exact ⟨h1, h2, h3, h4, h5, hx, h7, h8⟩
theorem kh_setT_ok {v : kh_S} {x : Int32} (hv : kh_ok v) (hx : kh_in x 0 255) : kh_ok (kh_setT v x) := by
  obtain ⟨h1, h2, h3, h4, h5, h6, h7, h8⟩ := hv
  exact ⟨h1, hx, h3, h4, h5, h6, h7, h8⟩
theorem kh_setk_ok {v : kh_S} {w : Nat} {x : Int32} (hv : kh_ok v) (hx : kh_in x 0 5) : kh_ok (kh_setk v w x) := by
  obtain ⟨h1, h2, h3, h4, h5, h6, h7, h8, h9, h10, h11⟩ := hv
  exact ⟨h1, h2, h3, h4, h5, h6, h7, kh_up_in h8 hx, h9, h10, h11⟩
theorem kh_setn_ok {v : kh_S} {w : Nat} {x : Int32} (hv : kh_ok v) (hx : kh_in x 0 255) : kh_ok (kh_setn v w x) := by
  obtain ⟨h1, h2, h3, h4, h5, h6, h7, h8, h9, h10, h11⟩ := hv
  exact ⟨h1, h2, h3, h4, h5, h6, h7, h8, kh_up_in h9 hx, h10, h11⟩
theorem kh_sets_ok {v : kh_S} {w : Nat} {x : Int32} (hv : kh_ok v) (hx : kh_in x 0 255) : kh_ok (kh_sets v w x) := by
  obtain ⟨h1, h2, h3, h4, h5, h6, h7, h8, h9, h10, h11⟩ := hv
  exact ⟨h1, h2, h3, h4, h5, h6, h7, h8, h9, kh_up_in h10 hx, h11⟩
theorem kh_setu_ok {v : kh_S} {w : Nat} {x : Int32} (hv : kh_ok v) (hx : kh_in x 0 9) : kh_ok (kh_setu v w x) := by
  obtain ⟨h1, h2, h3, h4, h5, h6, h7, h8, h9, h10, h11⟩ := hv
  exact ⟨h1, h2, h3, h4, h5, h6, h7, h8, h9, h10, kh_up_in h11 hx⟩
theorem kh_min_ok {v : kh_S} (hv : kh_ok v) (hm : kh_m v + 1 < 1000000) : kh_ok (kh_min v) := by
  unfold kh_min
  split
  · exact kh_setM_ok (kh_setH_ok hv (kh_clamp_in (by decide))) hm
  · next hc =>
    have hw : kh_who v < kh_c v := Nat.mod_lt _ (by omega)
    have hf : kh_ask v < 8 := Nat.mod_lt _ (by decide)
    exact kh_setM_ok (kh_ans_ok hv hw hf) hm
theorem kh_min_c (v : kh_S) : kh_c (kh_min v) = kh_c v := by
  unfold kh_min
  split <;> rfl
theorem kh_min_m (v : kh_S) : kh_m (kh_min v) = kh_m v + 1 := by
  unfold kh_min
  split <;> rfl
theorem kh_pass_c : ∀ (n : Nat) (v : kh_S), kh_c (kh_pass n v) = kh_c v
  | 0, _ => rfl
  | n + 1, v => (kh_pass_c n (kh_min v)).trans (kh_min_c v)
theorem kh_pass_m : ∀ (n : Nat) (v : kh_S), kh_m (kh_pass n v) = kh_m v + n
  | 0, _ => rfl
  | n + 1, v => by
    show kh_m (kh_pass n (kh_min v)) = _
    rw [kh_pass_m n, kh_min_m]
    omega
theorem kh_pass_ok : ∀ (n : Nat) (v : kh_S), kh_ok v → kh_m v + n < 1000000 → kh_ok (kh_pass n v)
  | 0, _, hv, _ => hv
  | n + 1, v, hv, hm => kh_pass_ok n (kh_min v) (kh_min_ok hv (by omega)) (by rw [kh_min_m]; omega)
theorem kh_pass_s : ∀ (n : Nat) (v : kh_S), kh_pass (n + 1) v = kh_min (kh_pass n v)
  | 0, _ => rfl
  | n + 1, v => kh_pass_s n (kh_min v)
