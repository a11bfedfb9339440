/-! THE REFERENCE: its small methods -/
theorem ib_ext {x y : Int32} (h : ∀ i, i < 32 → x.toBitVec.getLsbD i = y.toBitVec.getLsbD i) : x = y := Int32.toBitVec_inj.mp (BitVec.eq_of_getLsbD_eq (fun i hi => h i hi))
theorem ib_and (x y : Int32) (i : Nat) : (x &&& y).toBitVec.getLsbD i = (x.toBitVec.getLsbD i && y.toBitVec.getLsbD i) := by
  rw [Int32.toBitVec_and, BitVec.getLsbD_and]
theorem ib_xor (x y : Int32) (i : Nat) : (x ^^^ y).toBitVec.getLsbD i = (x.toBitVec.getLsbD i ^^ y.toBitVec.getLsbD i) := by
  rw [Int32.toBitVec_xor, BitVec.getLsbD_xor]
theorem ib_m1 {i : Nat} (h : i < 32) : (-1 : Int32).toBitVec.getLsbD i = true := by
  have : (-1 : Int32).toBitVec = BitVec.allOnes 32 := by decide
  rw [this, BitVec.getLsbD_allOnes]
  exact decide_eq_true h
theorem ib_n255 {n : Int32} (h : kh_in n 0 255) (i : Nat) : n.toBitVec.getLsbD i = (n.toBitVec.getLsbD i && (255 : Int32).toBitVec.getLsbD i) := by
  have e : n = n &&& 255 := by
    obtain ⟨j, hj, rfl⟩ := kh_in_nI (n := 255) h (by decide)
    rw [show (255 : Int32) = nI 255 from rfl, kn_and]
    congr 1
    have : j &&& (2 ^ 8 - 1) = j % 2 ^ 8 := Nat.and_two_pow_sub_one_eq_mod j 8
    have h2 : j % 2 ^ 8 = j := Nat.mod_eq_of_lt (by omega)
    exact (this.trans h2).symm
  rw [← ib_and, ← e]
theorem ib_lie {n x : Int32} (h : kh_in n 0 255) : n &&& ((255 &&& (x ^^^ (-1))) ^^^ (-1)) = n &&& x := by
  refine ib_ext (fun i hi => ?_)
  rw [ib_and, ib_and, ib_xor, ib_and, ib_xor, ib_m1 hi]
  have := ib_n255 h i
  generalize n.toBitVec.getLsbD i = a at this ⊢
  generalize (255 : Int32).toBitVec.getLsbD i = b at this ⊢
  generalize x.toBitVec.getLsbD i = c
  revert this
  cases a <;> cases b <;> cases c <;> decide
theorem ib_luck (n x : Int32) : (255 &&& (x ^^^ (-1))) &&& (n ^^^ (-1)) = 255 &&& (n ^^^ (-1)) &&& (x ^^^ (-1)) := by
  refine ib_ext (fun i hi => ?_)
  simp only [ib_and, ib_xor, ib_m1 hi]
  generalize n.toBitVec.getLsbD i = a
  generalize (255 : Int32).toBitVec.getLsbD i = b
  generalize x.toBitVec.getLsbD i = c
  cases a <;> cases b <;> cases c <;> decide
theorem ib_wrong (n x : Int32) : (255 &&& ((255 &&& (x ^^^ (-1))) ^^^ (-1))) &&& (n ^^^ (-1)) = 255 &&& (n ^^^ (-1)) &&& x := by
  refine ib_ext (fun i hi => ?_)
  simp only [ib_and, ib_xor, ib_m1 hi]
  generalize n.toBitVec.getLsbD i = a
  generalize (255 : Int32).toBitVec.getLsbD i = b
  generalize x.toBitVec.getLsbD i = c
  cases a <;> cases b <;> cases c <;> decide
theorem ib_01 (x : Int32) : x &&& 1 = 0 ∨ x &&& 1 = 1 := by
  have e : (x &&& 1).toBitVec.toNat = x.toBitVec.toNat % 2 := by
    rw [Int32.toBitVec_and, BitVec.toNat_and]
    exact Nat.and_one_is_mod _
  rcases Nat.mod_two_eq_zero_or_one x.toBitVec.toNat with h | h
  · exact Or.inl (Int32.toBitVec_inj.mp (BitVec.eq_of_toNat_eq (e.trans h)))
  · exact Or.inr (Int32.toBitVec_inj.mp (BitVec.eq_of_toNat_eq (e.trans h)))
theorem ib_bit (s : Int32) (f : Nat) : (s >>> (nI f &&& 31)) &&& 1 = if kh_bit s f = true then 1 else 0 := by
  unfold kh_bit
  rcases ib_01 (s >>> (nI f &&& 31)) with h | h
  · rw [h]; rfl
  · rw [h]; rfl
section KM1
variable {d w f : Nat} {μ : kq_M} {v : kh_S} {z : kz_S} {Q : Option kq_V → kq_M → Prop}
theorem kt_M_in {x lo hi : Int32} (k : Q (some (kq_I (kq_b (decide (lo ≤ x ∧ x ≤ hi))))) μ) : kq_Call d km_M_in [kq_I x, kq_I lo, kq_I hi] μ Q := by
  have no : ¬ (lo ≤ x ∧ x ≤ hi) → kq_S km_M_in d 14 [some (kq_I x), some (kq_I lo), some (kq_I hi)] [] μ Q := by
    intro h
    rw [decide_eq_false h] at k
    refine ks_M_in_14 <| ks_M_in_15 (by first | exact kq_b01' _ | exact Or.inl rfl | exact Or.inr rfl | assumption) ?_
    exact k
  refine ke_M_in ?_
  refine ks_M_in_0 <| ks_M_in_1 <| ks_M_in_2 (fun h2 => ?_) (fun h2 => ?_)
  · exact no (fun q => by rw [ki_lt] at h2; have := q.1; rw [ki_le] at this; omega)
  · refine ks_M_in_5 <| ks_M_in_6 <| ks_M_in_7 (fun h7 => ?_) (fun h7 => ?_)
    · exact no (fun q => by rw [ki_lt] at h7; have := q.2; rw [ki_le] at this; omega)
    · rw [decide_eq_true ⟨by rw [ki_lt] at h2; rw [ki_le]; omega, by rw [ki_lt] at h7; rw [ki_le]; omega⟩] at k
      refine ks_M_in_10 <| ks_M_in_11 <| ks_M_in_15 (by first | exact kq_b01' _ | exact Or.inl rfl | exact Or.inr rfl | assumption) ?_
      exact k
theorem kt_M_held {x lo hi : Int32} (k : Q (some (kq_I (kh_clamp x lo hi))) μ) : kq_Call d km_M_held [kq_I x, kq_I lo, kq_I hi] μ Q := by
  unfold kh_clamp at k
  refine ke_M_held ?_
  refine ks_M_held_0 <| ks_M_held_1 <| ks_M_held_2 (fun h2 => ?_) (fun h2 => ?_)
  · rw [if_neg (by rw [ki_le] at h2; rw [ki_lt]; omega)] at k
    refine ks_M_held_9 <| ks_M_held_10 <| ks_M_held_11 (fun h11 => ?_) (fun h11 => ?_)
    · rw [if_neg (by rw [ki_le] at h11; rw [ki_lt]; omega)] at k
      refine ks_M_held_18 <| ks_M_held_19 ?_
      exact k
    · rw [if_pos (by rw [ki_le] at h11; rw [ki_lt]; omega)] at k
      refine ks_M_held_14 <| ks_M_held_15 <| ks_M_held_19 ?_
      exact k
  · rw [if_pos (by rw [ki_le] at h2; rw [ki_lt]; omega)] at k
    refine ks_M_held_5 <| ks_M_held_6 <| ks_M_held_19 ?_
    exact k
theorem km_ix {w q : Nat} (h : w < 2 ^ 20) : 7 + 4 * nI w + nI q = nI (7 + 4 * w + q) := by
  rw [show (4 : Int32) = nI 4 from rfl, show nI 4 * nI w = nI (4 * w) from (Int32.ofNat_mul 4 _).symm, show (7 : Int32) = nI 7 from rfl, nI_add, nI_add]
theorem kt_M_its {q : Nat} (hw : w < 8) (hq : q < 4) (k : Q (some (kq_I (kq_rI μ 0 21 (7 + 4 * w + q)))) μ) : kq_Call d km_M_its [kq_R 0 20, kq_I (nI w), kq_I (nI q)] μ Q := by
  refine ke_M_its ?_
  refine ks_M_its_0 <| ks_M_its_1 <| ks_M_its_4 <| ks_M_its_6 <| ks_M_its_7 <| ks_M_its_8 <| ks_M_its_9 <| ks_M_its_10 <| ks_M_its_11 <| ks_M_its_12 (7 + 4 * w + q) (km_ix (by omega)) (by omega) <| ks_M_its_13 ?_
  exact k
theorem kt_M_puts {q : Nat} {x : Int32} (hw : w < 8) (hq : q < 4) (k : Q none (kq_wI μ 0 21 (7 + 4 * w + q) x)) : kq_Call d km_M_puts [kq_R 0 20, kq_I (nI w), kq_I (nI q), kq_I x] μ Q := by
  refine ke_M_puts ?_
  refine ks_M_puts_0 <| ks_M_puts_1 <| ks_M_puts_4 <| ks_M_puts_6 <| ks_M_puts_7 <| ks_M_puts_8 <| ks_M_puts_9 <| ks_M_puts_10 <| ks_M_puts_11 <| ks_M_puts_12 <| ks_M_puts_13 (7 + 4 * w + q) (km_ix (by omega)) (by omega) <| ks_M_puts_14 ?_
  exact k
theorem kt_M_its0 (ha : kr_at μ 21 v) (hv : kh_ok v) (hw : w < kh_c v) (k : Q (some (kq_I (kh_k v w))) μ) : kq_Call d km_M_its [kq_R 0 20, kq_I (nI w), kq_I 0] μ Q := kt_M_its (q := 0) (by have := hv.1; omega) (by decide) (by show Q (some (kq_I (kq_rI μ 0 21 (7 + 4 * w)))) μ; rw [ha.k hw]; exact k)
theorem kt_M_its1 (ha : kr_at μ 21 v) (hv : kh_ok v) (hw : w < kh_c v) (k : Q (some (kq_I (kh_n v w))) μ) : kq_Call d km_M_its [kq_R 0 20, kq_I (nI w), kq_I 1] μ Q := kt_M_its (q := 1) (by have := hv.1; omega) (by decide) (by rw [ha.n hw]; exact k)
theorem kt_M_its2 (ha : kr_at μ 21 v) (hv : kh_ok v) (hw : w < kh_c v) (k : Q (some (kq_I (kh_s v w))) μ) : kq_Call d km_M_its [kq_R 0 20, kq_I (nI w), kq_I 2] μ Q := kt_M_its (q := 2) (by have := hv.1; omega) (by decide) (by rw [ha.s hw]; exact k)
theorem kt_M_its3 (ha : kr_at μ 21 v) (hv : kh_ok v) (hw : w < kh_c v) (k : Q (some (kq_I (kh_u v w))) μ) : kq_Call d km_M_its [kq_R 0 20, kq_I (nI w), kq_I 3] μ Q := kt_M_its (q := 3) (by have := hv.1; omega) (by decide) (by rw [ha.u hw]; exact k)
theorem kt_M_becomes {a : Nat} {x : Int32} (h : a < 39) (k : Q (some (kq_I (kq_rI μ 0 21 a))) (kq_wI μ 0 21 a x)) : kq_Call d km_M_becomes [kq_R 0 20, kq_I (nI a), kq_I x] μ Q := by
  refine ke_M_becomes ?_
  refine ks_M_becomes_0 <| ks_M_becomes_1 <| ks_M_becomes_4 <| ks_M_becomes_5n (by omega) <| ks_M_becomes_6 rfl <| ks_M_becomes_7 <| ks_M_becomes_8 <| ks_M_becomes_11 <| ks_M_becomes_12 <| ks_M_becomes_13n (by omega) <| ks_M_becomes_14 <| ks_M_becomes_15 ?_
  exact k
theorem kt_M_isOne {x : Int32} (ha : kr_at μ 21 v) (hv : kh_ok v) (k : Q (some (kq_I (kq_b (kh_wi v x)))) μ) : kq_Call (d + 1) km_M_isOne [kq_R 0 20, kq_I x] μ Q := by
  have hc := hv.1
  refine ke_M_isOne ?_
  refine ks_M_isOne_0 <| ks_M_isOne_1 <| ks_M_isOne_2 <| ks_M_isOne_3 <| ks_M_isOne_6 <| ks_M_isOne_8 <| ks_M_isOne_9 <| ks_M_isOne_10 <| ks_M_isOne_11 (Nat.le_of_ble_eq_true rfl) ?_
  refine kt_M_in ?_
  refine ks_M_isOne_14 (by first | exact kq_b01' _ | exact Or.inl rfl | exact Or.inr rfl | assumption) ?_
  rw [ha.c, show decide (0 ≤ x ∧ x ≤ nI (kh_c v) - 1) = kh_wi v x from ?_]
  · exact k
  · unfold kh_wi
    rw [decide_eq_decide, ki_le, ki_le, ki_lt, ki_sub (by rw [nI_toInt (by omega)]; omega) (by decide), nI_toInt (by omega), ki_1]
    omega
theorem kt_M_isKind {x : Int32} (k : Q (some (kq_I (kq_b (decide (0 ≤ x ∧ x < 6))))) μ) : kq_Call (d + 1) km_M_isKind [kq_I x] μ Q := by
  refine ke_M_isKind ?_
  refine ks_M_isKind_0 <| ks_M_isKind_1 <| ks_M_isKind_2 <| ks_M_isKind_3 (Nat.le_of_ble_eq_true rfl) ?_
  refine kt_M_in ?_
  refine ks_M_isKind_6 (by first | exact kq_b01' _ | exact Or.inl rfl | exact Or.inr rfl | assumption) ?_
  rw [show decide (0 ≤ x ∧ x ≤ 5) = decide (0 ≤ x ∧ x < 6) from by rw [decide_eq_decide, ki_le 0, ki_le x, ki_lt, ki_5, ki_6]; omega]
  exact k
theorem kt_M_isFact {x : Int32} (k : Q (some (kq_I (kq_b (decide (0 ≤ x ∧ x < 8))))) μ) : kq_Call (d + 1) km_M_isFact [kq_I x] μ Q := by
  refine ke_M_isFact ?_
  refine ks_M_isFact_0 <| ks_M_isFact_1 <| ks_M_isFact_2 <| ks_M_isFact_4 (Nat.le_of_ble_eq_true rfl) ?_
  refine kt_M_in ?_
  refine ks_M_isFact_7 (by first | exact kq_b01' _ | exact Or.inl rfl | exact Or.inr rfl | assumption) ?_
  rw [show decide (0 ≤ x ∧ x ≤ 7) = decide (0 ≤ x ∧ x < 8) from by rw [decide_eq_decide, ki_le 0, ki_le x, ki_lt, ki_7, ki_8]; omega]
  exact k
theorem kt_M_right (ha : kr_at μ 21 v) (hv : kh_ok v) (hw : w < kh_c v) (k : Q (some (kq_I (255 &&& ((kh_s v w ^^^ kh_T v) ^^^ (-1))))) μ) : kq_Call (d + 1) km_M_right [kq_R 0 20, kq_I (nI w)] μ Q := by
  refine ke_M_right ?_
  refine ks_M_right_0 <| ks_M_right_3 <| ks_M_right_4 <| ks_M_right_5 <| ks_M_right_6 (Nat.le_of_ble_eq_true rfl) ?_
  refine kt_M_its2 ha hv hw ?_
  refine ks_M_right_9 <| ks_M_right_10 <| ks_M_right_13 <| ks_M_right_14 <| ks_M_right_15 <| ks_M_right_16 <| ks_M_right_17 <| ks_M_right_18 <| ks_M_right_19 ?_
  rw [ha.T]
  exact k
theorem kt_M_lies (ha : kr_at μ 21 v) (hv : kh_ok v) (hw : w < kh_c v) (k : Q (some (kq_I (kh_lie v w))) μ) : kq_Call (d + 2) km_M_lies [kq_R 0 20, kq_I (nI w)] μ Q := by
  refine ke_M_lies ?_
  refine ks_M_lies_0 <| ks_M_lies_1 <| ks_M_lies_2 <| ks_M_lies_3 (Nat.le_of_ble_eq_true rfl) ?_
  refine kt_M_its1 ha hv hw ?_
  refine ks_M_lies_6 <| ks_M_lies_7 <| ks_M_lies_8 (Nat.le_of_ble_eq_true rfl) ?_
  refine kt_M_right ha hv hw ?_
  refine ks_M_lies_11 <| ks_M_lies_12 <| ks_M_lies_13 <| ks_M_lies_14 ?_
  rw [ib_lie (hv.2.2.2.2.2.2.2.2.1 w hw)]
  exact k
theorem kt_M_lucky (ha : kr_at μ 21 v) (hv : kh_ok v) (hw : w < kh_c v) (k : Q (some (kq_I (kh_luck v w))) μ) : kq_Call (d + 2) km_M_lucky [kq_R 0 20, kq_I (nI w)] μ Q := by
  refine ke_M_lucky ?_
  refine ks_M_lucky_0 <| ks_M_lucky_1 <| ks_M_lucky_2 (Nat.le_of_ble_eq_true rfl) ?_
  refine kt_M_right ha hv hw ?_
  refine ks_M_lucky_5 <| ks_M_lucky_6 <| ks_M_lucky_7 <| ks_M_lucky_8 (Nat.le_of_ble_eq_true rfl) ?_
  refine kt_M_its1 ha hv hw ?_
  refine ks_M_lucky_11 <| ks_M_lucky_12 <| ks_M_lucky_13 <| ks_M_lucky_14 ?_
  rw [ib_luck]
  exact k
theorem kt_M_wrong (ha : kr_at μ 21 v) (hv : kh_ok v) (hw : w < kh_c v) (k : Q (some (kq_I (kh_wrong v w))) μ) : kq_Call (d + 2) km_M_wrong [kq_R 0 20, kq_I (nI w)] μ Q := by
  refine ke_M_wrong ?_
  refine ks_M_wrong_0 <| ks_M_wrong_3 <| ks_M_wrong_4 <| ks_M_wrong_5 (Nat.le_of_ble_eq_true rfl) ?_
  refine kt_M_right ha hv hw ?_
  refine ks_M_wrong_8 <| ks_M_wrong_9 <| ks_M_wrong_10 <| ks_M_wrong_11 <| ks_M_wrong_12 <| ks_M_wrong_13 <| ks_M_wrong_14 (Nat.le_of_ble_eq_true rfl) ?_
  refine kt_M_its1 ha hv hw ?_
  refine ks_M_wrong_17 <| ks_M_wrong_18 <| ks_M_wrong_19 <| ks_M_wrong_20 ?_
  rw [ib_wrong]
  exact k
theorem kt_M_isPlumber (ha : kr_at μ 21 v) (hv : kh_ok v) (hw : w < kh_c v) (k : Q (some (kq_I (kq_b (kh_isP (kh_k v w))))) μ) : kq_Call (d + 1) km_M_isPlumber [kq_R 0 20, kq_I (nI w)] μ Q := by
  unfold kh_isP at k
  refine ke_M_isPlumber ?_
  refine ks_M_isPlumber_0 <| ks_M_isPlumber_1 <| ks_M_isPlumber_2 <| ks_M_isPlumber_3 (Nat.le_of_ble_eq_true rfl) ?_
  refine kt_M_its0 ha hv hw ?_
  refine ks_M_isPlumber_6 <| ks_M_isPlumber_7 (fun h7 => ?_) (fun h7 => ?_)
  · refine ks_M_isPlumber_20 <| ks_M_isPlumber_21 <| ks_M_isPlumber_25 (by first | exact kq_b01' _ | exact Or.inl rfl | exact Or.inr rfl | assumption) ?_
    rw [decide_eq_true (Or.inl h7)] at k
    exact k
  · refine ks_M_isPlumber_10 <| ks_M_isPlumber_11 <| ks_M_isPlumber_12 <| ks_M_isPlumber_13 (Nat.le_of_ble_eq_true rfl) ?_
    refine kt_M_its0 ha hv hw ?_
    refine ks_M_isPlumber_16 <| ks_M_isPlumber_17 (fun h17 => ?_) (fun h17 => ?_)
    · refine ks_M_isPlumber_24 <| ks_M_isPlumber_25 (by first | exact kq_b01' _ | exact Or.inl rfl | exact Or.inr rfl | assumption) ?_
      rw [decide_eq_false (fun q => q.elim h7 h17)] at k
      exact k
    · refine ks_M_isPlumber_20 <| ks_M_isPlumber_21 <| ks_M_isPlumber_25 (by first | exact kq_b01' _ | exact Or.inl rfl | exact Or.inr rfl | assumption) ?_
      rw [decide_eq_true (Or.inr h17)] at k
      exact k
theorem kt_M_besideLiar (ha : kr_at μ 21 v) (hv : kh_ok v) (hw : w < kh_c v) (k : Q (some (kq_I (kq_b (kh_bes v w f)))) μ) : kq_Call (d + 3) km_M_besideLiar [kq_R 0 20, kq_I (nI w), kq_I (nI f)] μ Q := by
  have hc8 := hv.1
  have loop : ∀ (q o : Nat), o + q = kh_c v → kq_S km_M_besideLiar (d + 3) 5 [some (kq_R 0 20), some (kq_I (nI w)), some (kq_I (nI f)), some (kq_I (kq_b (kh_besN v w f o))), some (kq_I (nI o))] [] μ Q := by
    intro q
    induction q with
    | zero =>
      intro o ho
      refine ks_M_besideLiar_5 <| ks_M_besideLiar_7 <| ks_M_besideLiar_8 <| ks_M_besideLiar_11 <| ks_M_besideLiar_13 <| ks_M_besideLiar_14 (fun h14 => ?_) (fun h14 => ?_)
      · refine ks_M_besideLiar_62 <| ks_M_besideLiar_63 (by first | exact kq_b01' _ | exact Or.inl rfl | exact Or.inr rfl | assumption) ?_
        rw [show o = kh_c v by omega]
        exact k
      · rw [ha.c] at h14
        exact absurd (nI_le (show kh_c v ≤ o by omega) (by omega)) h14
    | succ q ih =>
      intro o ho
      have e1 : kh_besN v w f (o + 1) = (kh_besN v w f o || (decide (o ≠ w) && kh_bit (kh_lie v o) f && kh_isP (kh_k v o))) := rfl
      have g := ih (o + 1) (by omega)
      have yes : kh_besN v w f (o + 1) = true → kq_S km_M_besideLiar (d + 3) 50 [some (kq_R 0 20), some (kq_I (nI w)), some (kq_I (nI f)), some (kq_I (kq_b (kh_besN v w f o))), some (kq_I (nI o))] [] μ Q := by
        intro h
        rw [h] at g
        refine ks_M_besideLiar_50 <| ks_M_besideLiar_51 <| ks_M_besideLiar_55 rfl <| ks_M_besideLiar_56n rfl <| ks_M_besideLiar_59 ?_
        exact g
      have no : kh_besN v w f (o + 1) = false → kq_S km_M_besideLiar (d + 3) 54 [some (kq_R 0 20), some (kq_I (nI w)), some (kq_I (nI f)), some (kq_I (kq_b (kh_besN v w f o))), some (kq_I (nI o))] [] μ Q := by
        intro h
        rw [h] at g
        refine ks_M_besideLiar_54 <| ks_M_besideLiar_55 rfl <| ks_M_besideLiar_56n rfl <| ks_M_besideLiar_59 ?_
        exact g
      refine ks_M_besideLiar_5 <| ks_M_besideLiar_7 <| ks_M_besideLiar_8 <| ks_M_besideLiar_11 <| ks_M_besideLiar_13 <| ks_M_besideLiar_14 (fun h14 => ?_) (fun h14 => ?_)
      · rw [ha.c] at h14
        exact absurd h14 (nI_ge (show o < kh_c v by omega) (by omega))
      · refine ks_M_besideLiar_17 <| ks_M_besideLiar_18 (fun h18 => ?_) (fun h18 => ?_)
        · exact yes (by rw [e1, kq_b_t h18, Bool.true_or])
        · have hb := kq_b_f h18
          rw [hb, Bool.false_or] at e1
          refine ks_M_besideLiar_21 <| ks_M_besideLiar_23 <| ks_M_besideLiar_24 (fun h24 => ?_) (fun h24 => ?_)
          · have eo : o = w := by
              rw [ki_eq, nI_toInt (by omega), nI_toInt (by omega)] at h24
              omega
            exact no (by rw [e1, decide_eq_false (fun q => q eo), Bool.false_and, Bool.false_and])
          · have eo : o ≠ w := fun q => h24 (by rw [q])
            rw [decide_eq_true eo, Bool.true_and] at e1
            refine ks_M_besideLiar_27 <| ks_M_besideLiar_28 <| ks_M_besideLiar_30 (Nat.le_of_ble_eq_true rfl) ?_
            refine kt_M_isPlumber ha hv (by omega) ?_
            refine ks_M_besideLiar_33 (fun h33 => ?_) (fun h33 => ?_)
            · exact no (by rw [e1, kq_b_f h33, Bool.and_false])
            · rw [kq_b_t h33, Bool.and_true] at e1
              refine ks_M_besideLiar_36 <| ks_M_besideLiar_37 <| ks_M_besideLiar_39 (Nat.le_of_ble_eq_true rfl) ?_
              refine kt_M_lies ha hv (by omega) ?_
              refine ks_M_besideLiar_42 <| ks_M_besideLiar_43 <| ks_M_besideLiar_44 <| ks_M_besideLiar_45 <| ks_M_besideLiar_46 <| ks_M_besideLiar_47 (fun h47 => ?_) (fun h47 => ?_)
              · exact no (e1.trans (decide_eq_false h47))
              · exact yes (e1.trans (decide_eq_true h47))
  refine ke_M_besideLiar ?_
  refine ks_M_besideLiar_0 <| ks_M_besideLiar_1 rfl <| ks_M_besideLiar_2 <| ks_M_besideLiar_3 rfl ?_
  exact loop (kh_c v) 0 (by omega)
theorem kt_M_doubting (ha : kr_at μ 21 v) (hv : kh_ok v) (hw : w < kh_c v) (k : Q (some (kq_I (kh_doubt (kh_k v w)))) μ) : kq_Call (d + 1) km_M_doubting [kq_R 0 20, kq_I (nI w)] μ Q := by
  have hk := hv.2.2.2.2.2.2.2.1 w hw
  rw [kh_in_iff, ki_0, ki_5] at hk
  refine ke_M_doubting ?_
  refine ks_M_doubting_0 <| ks_M_doubting_1 <| ks_M_doubting_2 <| ks_M_doubting_3 (Nat.le_of_ble_eq_true rfl) ?_
  refine kt_M_its0 ha hv hw ?_
  unfold kh_doubt at k
  refine ks_M_doubting_6 (fun h6 => ?_) (fun h6 => ?_) (fun h6 => ?_) (fun h6 => ?_) (fun h6 => ?_)
  · rw [if_pos h6] at k
    refine ks_M_doubting_36 <| ks_M_doubting_37 ?_
    exact k
  · rw [h6, if_neg (by decide), if_neg (by decide)] at k
    refine ks_M_doubting_40 <| ks_M_doubting_41 ?_
    exact k
  · rw [h6, if_neg (by decide), if_pos (Or.inl rfl)] at k
    refine ks_M_doubting_38 <| ks_M_doubting_39 ?_
    exact k
  · rw [h6, if_neg (by decide), if_pos (Or.inr rfl)] at k
    refine ks_M_doubting_38 <| ks_M_doubting_39 ?_
    exact k
  · rw [if_neg (fun q => by rw [ki_eq, ki_1] at q; omega), if_neg (fun q => by rw [ki_eq, ki_eq, ki_3, ki_4] at q; omega)] at k
    refine ks_M_doubting_40 <| ks_M_doubting_41 ?_
    exact k
end KM1
