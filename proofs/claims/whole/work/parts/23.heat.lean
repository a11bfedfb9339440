/-! THE CLASS's HALL: what a question heats -/
section KT2
variable {d r w f : Nat} {μ : kq_M} {v : kh_S} {Q : Option kq_V → kq_M → Prop}
theorem kt_H_lieSet (hr : kq_hr r = true) (ha : kc_at μ r v) (hv : kh_ok v) (hw : w < kh_c v) (k : Q (some (kq_I (kh_lie v w))) μ) : kq_Call d km_H_lieSet [kq_R r 1, kq_I (nI w)] μ Q := by
  have hw8 : w < 8 := Nat.lt_of_lt_of_le hw hv.1
  refine ke_H_lieSet ?_
  refine ks_H_lieSet_0 <| ks_H_lieSet_1 (by first | rfl | assumption) <| ks_H_lieSet_4 <| ks_H_lieSet_5n (by first | rfl | assumption) (by omega) <| ks_H_lieSet_6 <| ks_H_lieSet_7 (by first | rfl | assumption) <| ks_H_lieSet_10 <| ks_H_lieSet_11n (by first | rfl | assumption) (by omega) <| ks_H_lieSet_12 <| ks_H_lieSet_13 (by first | rfl | assumption) <| ks_H_lieSet_16 <| ks_H_lieSet_17 <| ks_H_lieSet_18 ?_
  rw [ha.n hw, ha.s hw, ha.T]
  exact k
theorem kt_H_luckySet (hr : kq_hr r = true) (ha : kc_at μ r v) (hv : kh_ok v) (hw : w < kh_c v) (k : Q (some (kq_I (kh_luck v w))) μ) : kq_Call d km_H_luckySet [kq_R r 1, kq_I (nI w)] μ Q := by
  have hw8 : w < 8 := Nat.lt_of_lt_of_le hw hv.1
  refine ke_H_luckySet ?_
  refine ks_H_luckySet_0 <| ks_H_luckySet_3 <| ks_H_luckySet_4 (by first | rfl | assumption) <| ks_H_luckySet_7 <| ks_H_luckySet_8n (by first | rfl | assumption) (by omega) <| ks_H_luckySet_9 <| ks_H_luckySet_10 <| ks_H_luckySet_11 <| ks_H_luckySet_12 <| ks_H_luckySet_13 (by first | rfl | assumption) <| ks_H_luckySet_16 <| ks_H_luckySet_17n (by first | rfl | assumption) (by omega) <| ks_H_luckySet_18 <| ks_H_luckySet_19 (by first | rfl | assumption) <| ks_H_luckySet_22 <| ks_H_luckySet_23 <| ks_H_luckySet_24 <| ks_H_luckySet_25 <| ks_H_luckySet_26 ?_
  rw [ha.n hw, ha.s hw, ha.T]
  exact k
theorem kt_H_wrongSet (hr : kq_hr r = true) (ha : kc_at μ r v) (hv : kh_ok v) (hw : w < kh_c v) (k : Q (some (kq_I (kh_wrong v w))) μ) : kq_Call d km_H_wrongSet [kq_R r 1, kq_I (nI w)] μ Q := by
  have hw8 : w < 8 := Nat.lt_of_lt_of_le hw hv.1
  refine ke_H_wrongSet ?_
  refine ks_H_wrongSet_0 <| ks_H_wrongSet_3 <| ks_H_wrongSet_4 (by first | rfl | assumption) <| ks_H_wrongSet_7 <| ks_H_wrongSet_8n (by first | rfl | assumption) (by omega) <| ks_H_wrongSet_9 <| ks_H_wrongSet_10 <| ks_H_wrongSet_11 <| ks_H_wrongSet_12 <| ks_H_wrongSet_13 (by first | rfl | assumption) <| ks_H_wrongSet_16 <| ks_H_wrongSet_17n (by first | rfl | assumption) (by omega) <| ks_H_wrongSet_18 <| ks_H_wrongSet_19 (by first | rfl | assumption) <| ks_H_wrongSet_22 <| ks_H_wrongSet_23 <| ks_H_wrongSet_24 ?_
  rw [ha.n hw, ha.s hw, ha.T]
  exact k
/-- a kind, by its number -/
theorem kh_kind {x : Int32} (h : kh_in x 0 5) : x = nI 0 ∨ x = nI 1 ∨ x = nI 2 ∨ x = nI 3 ∨ x = nI 4 ∨ x = nI 5 := by
  obtain ⟨j, hj, rfl⟩ := kh_in_nI h (n := 5) ki_5
  rcases (show j = 0 ∨ j = 1 ∨ j = 2 ∨ j = 3 ∨ j = 4 ∨ j = 5 by omega) with rfl | rfl | rfl | rfl | rfl | rfl <;> simp
theorem kh_dk (j : Nat) (h : j < 6) : kq_DK j = kh_doubt (nI j) := by
  rcases (show j = 0 ∨ j = 1 ∨ j = 2 ∨ j = 3 ∨ j = 4 ∨ j = 5 by omega) with rfl | rfl | rfl | rfl | rfl | rfl <;> decide
theorem kt_H_doubtOf (hr : kq_hr r = true) (ha : kc_at μ r v) (hv : kh_ok v) (hw : w < kh_c v) (k : Q (some (kq_I (kh_doubt (kh_k v w)))) μ) : kq_Call (d + 1) km_H_doubtOf [kq_R r 1, kq_I (nI w)] μ Q := by
  have hw8 : w < 8 := Nat.lt_of_lt_of_le hw hv.1
  have hk := hv.2.2.2.2.2.2.2.1 w hw
  obtain ⟨j, hj, hjk⟩ := kh_in_nI hk (n := 5) ki_5
  have e : kq_rI μ r 2 w = nI j := (ha.k hw).trans hjk
  refine ke_H_doubtOf ?_
  refine ks_H_doubtOf_0 <| ks_H_doubtOf_1 (by first | rfl | assumption) <| ks_H_doubtOf_4 <| ks_H_doubtOf_5n (by first | rfl | assumption) (by omega) <| ks_H_doubtOf_6 rfl <| ks_H_doubtOf_7 <| ks_H_doubtOf_8 (Nat.le_of_ble_eq_true rfl) ?_
  refine kt_K_isKind ?_
  have hb : decide ((0 : Int32) ≤ kq_rI μ r 2 w ∧ kq_rI μ r 2 w < 6) = true := decide_eq_true (by
    rw [e]
    exact ⟨nI_pos' (by omega), by rw [ki_lt, nI_toInt (by omega), ki_6]; omega⟩)
  refine ks_H_doubtOf_11 (fun h11 => ?_) (fun h11 => ?_)
  · rw [hb] at h11
    exact absurd h11 (by decide)
  · refine ks_H_doubtOf_14 <| ks_H_doubtOf_17 <| ks_H_doubtOf_18 j e (by omega) <| ks_H_doubtOf_19 <| ks_H_doubtOf_23 ?_
    rw [kh_dk j (by omega), ← hjk]
    exact k
theorem kt_H_witnessHeat (hr : kq_hr r = true) (ha : kc_at μ r v) (hv : kh_ok v) (hw : w < kh_c v) (k : Q (some (kq_I (kh_plain v w f))) μ) : kq_Call (d + 1) km_H_witnessHeat [kq_R r 1, kq_I (nI w), kq_I (nI f)] μ Q := by
  have hw8 : w < 8 := Nat.lt_of_lt_of_le hw hv.1
  refine ke_H_witnessHeat ?_
  refine ks_H_witnessHeat_0 <| ks_H_witnessHeat_1 <| ks_H_witnessHeat_2 (by first | rfl | assumption) (Nat.le_of_ble_eq_true rfl) ?_
  refine kt_H_lieSet hr ha hv hw ?_
  refine ks_H_witnessHeat_5 <| ks_H_witnessHeat_6 (Nat.le_of_ble_eq_true rfl) ?_
  refine kt_K_isIn ?_
  refine ks_H_witnessHeat_9 (fun h9 => ?_) (fun h9 => ?_)
  · have h9 := kq_b_f h9
    refine ks_H_witnessHeat_21 <| ks_H_witnessHeat_22 <| ks_H_witnessHeat_23 (by first | rfl | assumption) (Nat.le_of_ble_eq_true rfl) ?_
    refine kt_H_luckySet hr ha hv hw ?_
    refine ks_H_witnessHeat_26 <| ks_H_witnessHeat_27 (Nat.le_of_ble_eq_true rfl) ?_
    refine kt_K_isIn ?_
    refine ks_H_witnessHeat_30 (fun h30 => ?_) (fun h30 => ?_)
    · have h30 := kq_b_f h30
      refine ks_H_witnessHeat_44 <| ks_H_witnessHeat_45 ?_
      rw [show kh_plain v w f = 0 by simp [kh_plain, h9, h30]] at k
      exact k
    · have h30 := kq_b_t h30
      refine ks_H_witnessHeat_33 <| ks_H_witnessHeat_34 (by first | rfl | assumption) <| ks_H_witnessHeat_37 <| ks_H_witnessHeat_38n (by first | rfl | assumption) (by omega) <| ks_H_witnessHeat_39 <| ks_H_witnessHeat_40 <| ks_H_witnessHeat_41 <| ks_H_witnessHeat_45 ?_
      rw [show kh_plain v w f = kh_u v w / 2 by simp [kh_plain, h9, h30]] at k
      rw [ha.u hw]
      exact k
  · have h9 := kq_b_t h9
    refine ks_H_witnessHeat_12 <| ks_H_witnessHeat_13 <| ks_H_witnessHeat_14 (by first | rfl | assumption) <| ks_H_witnessHeat_17 <| ks_H_witnessHeat_18n (by first | rfl | assumption) (by omega) <| ks_H_witnessHeat_19 <| ks_H_witnessHeat_20 ?_
    rw [show kh_plain v w f = 1 + kh_u v w by simp [kh_plain, h9]] at k
    rw [ha.u hw]
    exact k
theorem kt_H_plumberHeat (hr : kq_hr r = true) (ha : kc_at μ r v) (hv : kh_ok v) (hw : w < kh_c v) (hf : f < 8) (k : Q (some (kq_I (kh_plumb v w f))) μ) : kq_Call (d + 2) km_H_plumberHeat [kq_R r 1, kq_I (nI w), kq_I (nI f)] μ Q := by
  have hf3 : (3 : Int32) < nI f ↔ 3 < f := by rw [ki_lt, ki_3, nI_toInt (by omega)]; omega
  have fin : ∀ b : Bool, (b = true ↔ f ≤ 3 ∧ kh_bit (kh_lie v w) f = true) → kq_S km_H_plumberHeat (d + 2) 22 [some (kq_R r 1), some (kq_I (nI w)), some (kq_I (nI f)), none] [kq_I (kq_b b)] μ Q := by
    intro b hb
    refine ks_H_plumberHeat_22 rfl <| ks_H_plumberHeat_23 <| ks_H_plumberHeat_24 <| ks_H_plumberHeat_25 <| ks_H_plumberHeat_26 (by first | rfl | assumption) (Nat.le_of_ble_eq_true rfl) ?_
    refine kt_H_witnessHeat hr ha hv hw ?_
    refine ks_H_plumberHeat_29 <| ks_H_plumberHeat_30 (fun h30 => ?_) (fun h30 => ?_)
    · have h30 := kq_b_f h30
      refine ks_H_plumberHeat_37 <| ks_H_plumberHeat_38 <| ks_H_plumberHeat_39 ?_
      rw [Int32.add_zero]
      rw [show kh_plumb v w f = kh_plain v w f by unfold kh_plumb; rw [if_neg (fun q => by rw [← hb, h30] at q; cases q)]] at k
      exact k
    · have h30 := kq_b_t h30
      refine ks_H_plumberHeat_33 <| ks_H_plumberHeat_34 <| ks_H_plumberHeat_38 <| ks_H_plumberHeat_39 ?_
      rw [show kh_plumb v w f = kh_plain v w f + 5 by unfold kh_plumb; rw [if_pos (hb.mp h30)]] at k
      exact k
  refine ke_H_plumberHeat ?_
  refine ks_H_plumberHeat_0 <| ks_H_plumberHeat_1 <| ks_H_plumberHeat_2 (fun h2 => ?_) (fun h2 => ?_)
  · refine ks_H_plumberHeat_21 ?_
    exact fin false ⟨fun q => (by cases q), fun q => absurd q.1 (Nat.not_le.mpr (hf3.mp h2))⟩
  · refine ks_H_plumberHeat_5 <| ks_H_plumberHeat_6 <| ks_H_plumberHeat_7 (by first | rfl | assumption) (Nat.le_of_ble_eq_true rfl) ?_
    refine kt_H_lieSet hr ha hv hw ?_
    refine ks_H_plumberHeat_10 <| ks_H_plumberHeat_11 (Nat.le_of_ble_eq_true rfl) ?_
    refine kt_K_isIn ?_
    refine ks_H_plumberHeat_14 (fun h14 => ?_) (fun h14 => ?_)
    · have h14 := kq_b_f h14
      refine ks_H_plumberHeat_21 ?_
      exact fin false ⟨fun q => (by cases q), fun q => by rw [h14] at q; exact q.2⟩
    · have h14 := kq_b_t h14
      refine ks_H_plumberHeat_17 <| ks_H_plumberHeat_18 ?_
      exact fin true ⟨fun _ => ⟨Nat.not_lt.mp (fun q => h2 (hf3.mpr q)), h14⟩, fun _ => rfl⟩
theorem kt_K_isOfKind1 {x : Int32} (hx : kh_in x 0 5) (k : Q (some (kq_I (kq_b (kh_isP x)))) μ) : kq_Call d km_K_isOfKind [kq_I x, kq_I 1] μ Q := by
  have fin : ∀ y i : Int32, (y = 1 ↔ kh_isP x = true) → kq_S km_K_isOfKind d 36 [some (kq_I x), some (kq_I 1), some (kq_I y), some (kq_I i)] [] μ Q := by
    intro y i hy
    refine ks_K_isOfKind_36 <| ks_K_isOfKind_37 <| ks_K_isOfKind_38 (fun h38 => ?_) (fun h38 => ?_)
    · refine ks_K_isOfKind_45 <| ks_K_isOfKind_46 (by first | exact kq_b01' _ | exact Or.inl rfl | exact Or.inr rfl | assumption) ?_
      rw [show kh_isP x = false by rw [← Bool.not_eq_true, ← hy]; exact h38] at k
      exact k
    · refine ks_K_isOfKind_41 <| ks_K_isOfKind_42 <| ks_K_isOfKind_46 (by first | exact kq_b01' _ | exact Or.inl rfl | exact Or.inr rfl | assumption) ?_
      rw [hy.mp h38] at k
      exact k
  refine ke_K_isOfKind ?_
  refine ks_K_isOfKind_0 <| ks_K_isOfKind_1 rfl <| ks_K_isOfKind_2 <| ks_K_isOfKind_3 rfl ?_
  have step : ∀ i : Int32, ¬ (3 : Int32) ≤ i → ∀ j : Nat, j < 6 → nI j ≠ 1 → kq_S km_K_isOfKind d 4 [some (kq_I x), some (kq_I 1), some (kq_I (kq_KA j)), some (kq_I (i + 1))] [] μ Q → kq_S km_K_isOfKind d 4 [some (kq_I x), some (kq_I 1), some (kq_I (nI j)), some (kq_I i)] [] μ Q := by
    intro i hi j hj h1 kk
    refine ks_K_isOfKind_4 <| ks_K_isOfKind_5 <| ks_K_isOfKind_6 (fun h6 => ?_) (fun h6 => ?_)
    · exact absurd h6 hi
    · refine ks_K_isOfKind_9 <| ks_K_isOfKind_10 <| ks_K_isOfKind_11 (fun h11 => ?_) (fun h11 => ?_)
      · exact absurd h11 h1
      · refine ks_K_isOfKind_14 <| ks_K_isOfKind_15 (fun h15 => ?_) (fun h15 => ?_)
        · exact absurd h15 (nI_pos (by omega))
        · refine ks_K_isOfKind_18 <| ks_K_isOfKind_19 <| ks_K_isOfKind_21 (fun h21 => ?_) (fun h21 => ?_)
          · rw [ki_le, ki_6, nI_toInt (by omega)] at h21
            omega
          · refine ks_K_isOfKind_24 <| ks_K_isOfKind_27 <| ks_K_isOfKind_28 j rfl hj <| ks_K_isOfKind_29 rfl <| ks_K_isOfKind_30 rfl <| ks_K_isOfKind_33 ?_
            exact kk
  have stop1 : ∀ i : Int32, ¬ (3 : Int32) ≤ i → kh_isP x = true → kq_S km_K_isOfKind d 4 [some (kq_I x), some (kq_I 1), some (kq_I 1), some (kq_I i)] [] μ Q := by
    intro i hi hp
    refine ks_K_isOfKind_4 <| ks_K_isOfKind_5 <| ks_K_isOfKind_6 (fun h6 => ?_) (fun h6 => ?_)
    · exact absurd h6 hi
    · refine ks_K_isOfKind_9 <| ks_K_isOfKind_10 <| ks_K_isOfKind_11 (fun h11 => ?_) (fun h11 => ?_)
      · exact fin 1 i ⟨fun _ => hp, fun _ => rfl⟩
      · exact absurd rfl h11
  have stopm : ∀ i : Int32, kh_isP x = false → kq_S km_K_isOfKind d 4 [some (kq_I x), some (kq_I 1), some (kq_I (-1)), some (kq_I i)] [] μ Q := by
    intro i hp
    have e : ((-1 : Int32) = 1 ↔ kh_isP x = true) := ⟨fun q => absurd q (by decide), fun q => by rw [hp] at q; cases q⟩
    refine ks_K_isOfKind_4 <| ks_K_isOfKind_5 <| ks_K_isOfKind_6 (fun h6 => ?_) (fun h6 => ?_)
    · exact fin (-1) i e
    · refine ks_K_isOfKind_9 <| ks_K_isOfKind_10 <| ks_K_isOfKind_11 (fun h11 => ?_) (fun h11 => ?_)
      · exact absurd h11 (by decide)
      · refine ks_K_isOfKind_14 <| ks_K_isOfKind_15 (fun h15 => ?_) (fun h15 => ?_)
        · exact fin (-1) i e
        · exact absurd (show (-1 : Int32) < 0 by decide) h15
  rcases kh_kind hx with e | e | e | e | e | e
  · have hp : kh_isP x = false := by rw [e]; decide
    rw [show (some (kq_I x) : Option kq_V) = some (kq_I (nI 0)) by rw [e]] at *
    exact step 0 (by decide) 0 (by decide) (by decide) (stopm _ hp)
  · have hp : kh_isP x = true := by rw [e]; decide
    rw [show (some (kq_I x) : Option kq_V) = some (kq_I (nI 1)) by rw [e]] at *
    exact stop1 0 (by decide) hp
  · have hp : kh_isP x = false := by rw [e]; decide
    rw [show (some (kq_I x) : Option kq_V) = some (kq_I (nI 2)) by rw [e]] at *
    exact step 0 (by decide) 2 (by decide) (by decide) (step 1 (by decide) 0 (by decide) (by decide) (stopm _ hp))
  · have hp : kh_isP x = false := by rw [e]; decide
    rw [show (some (kq_I x) : Option kq_V) = some (kq_I (nI 3)) by rw [e]] at *
    exact step 0 (by decide) 3 (by decide) (by decide) (step 1 (by decide) 0 (by decide) (by decide) (stopm _ hp))
  · have hp : kh_isP x = true := by rw [e]; decide
    rw [show (some (kq_I x) : Option kq_V) = some (kq_I (nI 4)) by rw [e]] at *
    exact step 0 (by decide) 4 (by decide) (by decide) (stop1 1 (by decide) hp)
  · have hp : kh_isP x = false := by rw [e]; decide
    rw [show (some (kq_I x) : Option kq_V) = some (kq_I (nI 5)) by rw [e]] at *
    exact step 0 (by decide) 5 (by decide) (by decide) (step 1 (by decide) 2 (by decide) (by decide) (step 2 (by decide) 0 (by decide) (by decide) (stopm _ hp)))
theorem kh_besN_mono {n m : Nat} (h : kh_besN v w f n = true) (hm : n ≤ m) : kh_besN v w f m = true := by
  induction m with
  | zero =>
    have : n = 0 := by omega
    subst this
    exact h
  | succ m ih =>
    by_cases e : n = m + 1
    · subst e
      exact h
    · show (kh_besN v w f m || _) = true
      rw [ih (by omega), Bool.true_or]
theorem kt_H_anotherPlumberLies (hr : kq_hr r = true) (ha : kc_at μ r v) (hv : kh_ok v) (hw : w < kh_c v) (k : Q (some (kq_I (kq_b (kh_bes v w f)))) μ) : kq_Call (d + 1) km_H_anotherPlumberLies [kq_R r 1, kq_I (nI w), kq_I (nI f)] μ Q := by
  have hw8 : w < 8 := Nat.lt_of_lt_of_le hw hv.1
  have hc8 := hv.1
  have loop : ∀ n i : Nat, i + n = kh_c v → kh_besN v w f i = false → kq_S km_H_anotherPlumberLies (d + 1) 2 [some (kq_R r 1), some (kq_I (nI w)), some (kq_I (nI f)), some (kq_I (nI i))] [] μ Q := by
    intro n
    induction n with
    | zero =>
      intro i hi hb
      refine ks_H_anotherPlumberLies_2 <| ks_H_anotherPlumberLies_3 <| ks_H_anotherPlumberLies_4 (by first | rfl | assumption) <| ks_H_anotherPlumberLies_7 (fun h7 => ?_) (fun h7 => ?_)
      · refine ks_H_anotherPlumberLies_48 <| ks_H_anotherPlumberLies_49 ?_
        rw [show kh_bes v w f = false by unfold kh_bes; rw [← hi]; exact hb] at k
        exact k
      · rw [ha.c] at h7
        exact absurd (nI_le (show kh_c v ≤ i by omega) (by omega)) h7
    | succ n ih =>
      intro i hi hb
      have hin : i < kh_c v := by omega
      have hi8 : i < 8 := by omega
      have nx : kh_besN v w f (i + 1) = false → kq_S km_H_anotherPlumberLies (d + 1) 42 [some (kq_R r 1), some (kq_I (nI w)), some (kq_I (nI f)), some (kq_I (nI i))] [] μ Q := by
        intro hb1
        refine ks_H_anotherPlumberLies_42n rfl <| ks_H_anotherPlumberLies_45 ?_
        exact ih (i + 1) (by omega) hb1
      refine ks_H_anotherPlumberLies_2 <| ks_H_anotherPlumberLies_3 <| ks_H_anotherPlumberLies_4 (by first | rfl | assumption) <| ks_H_anotherPlumberLies_7 (fun h7 => ?_) (fun h7 => ?_)
      · rw [ha.c] at h7
        exact absurd h7 (nI_ge hin (by omega))
      · refine ks_H_anotherPlumberLies_10 <| ks_H_anotherPlumberLies_11 <| ks_H_anotherPlumberLies_12 (fun h12 => ?_) (fun h12 => ?_)
        · have e : i = w := (nI_eq (by omega) (by omega)).mp h12
          exact nx (by show (kh_besN v w f i || _) = false; rw [hb, e]; simp)
        · have e : i ≠ w := fun q => h12 (by rw [q])
          refine ks_H_anotherPlumberLies_15 <| ks_H_anotherPlumberLies_16 <| ks_H_anotherPlumberLies_17 (by first | rfl | assumption) (Nat.le_of_ble_eq_true rfl) ?_
          refine kt_H_lieSet hr ha hv hin ?_
          refine ks_H_anotherPlumberLies_20 <| ks_H_anotherPlumberLies_21 (Nat.le_of_ble_eq_true rfl) ?_
          refine kt_K_isIn ?_
          refine ks_H_anotherPlumberLies_24 (fun h24 => ?_) (fun h24 => ?_)
          · have h24 := kq_b_f h24
            exact nx (by show (kh_besN v w f i || _) = false; rw [hb, h24]; simp)
          · have h24 := kq_b_t h24
            refine ks_H_anotherPlumberLies_27 <| ks_H_anotherPlumberLies_28 (by first | rfl | assumption) <| ks_H_anotherPlumberLies_31 <| ks_H_anotherPlumberLies_32n (by first | rfl | assumption) (by omega) <| ks_H_anotherPlumberLies_33 <| ks_H_anotherPlumberLies_34 (Nat.le_of_ble_eq_true rfl) ?_
            rw [ha.k hin]
            refine kt_K_isOfKind1 (hv.2.2.2.2.2.2.2.1 i hin) ?_
            refine ks_H_anotherPlumberLies_37 (fun h37 => ?_) (fun h37 => ?_)
            · have h37 := kq_b_f h37
              exact nx (by show (kh_besN v w f i || _) = false; rw [hb, h37]; simp)
            · have h37 := kq_b_t h37
              refine ks_H_anotherPlumberLies_40 <| ks_H_anotherPlumberLies_41 ?_
              have e1 : kh_besN v w f (i + 1) = true := by
                show (kh_besN v w f i || _) = true
                rw [h24, h37]; simp [e]
              rw [show kh_bes v w f = true from kh_besN_mono e1 (by omega)] at k
              exact k
  refine ke_H_anotherPlumberLies ?_
  refine ks_H_anotherPlumberLies_0 <| ks_H_anotherPlumberLies_1 rfl ?_
  exact loop (kh_c v) 0 (by omega) rfl
theorem kt_H_wifeHeat (hr : kq_hr r = true) (ha : kc_at μ r v) (hv : kh_ok v) (hw : w < kh_c v) (k : Q (some (kq_I (kh_wife v w f))) μ) : kq_Call (d + 2) km_H_wifeHeat [kq_R r 1, kq_I (nI w), kq_I (nI f)] μ Q := by
  refine ke_H_wifeHeat ?_
  refine ks_H_wifeHeat_0 <| ks_H_wifeHeat_1 <| ks_H_wifeHeat_2 <| ks_H_wifeHeat_3 (by first | rfl | assumption) (Nat.le_of_ble_eq_true rfl) ?_
  refine kt_H_witnessHeat hr ha hv hw ?_
  refine ks_H_wifeHeat_6 <| ks_H_wifeHeat_7 <| ks_H_wifeHeat_8 <| ks_H_wifeHeat_9 (by first | rfl | assumption) (Nat.le_of_ble_eq_true rfl) ?_
  refine kt_H_anotherPlumberLies hr ha hv hw ?_
  refine ks_H_wifeHeat_12 (fun h12 => ?_) (fun h12 => ?_)
  · have h12 := kq_b_f h12
    refine ks_H_wifeHeat_19 <| ks_H_wifeHeat_20 <| ks_H_wifeHeat_21 ?_
    rw [Int32.add_zero]
    rw [show kh_wife v w f = kh_plain v w f by unfold kh_wife; rw [if_neg (by rw [h12]; decide)]] at k
    exact k
  · have h12 := kq_b_t h12
    refine ks_H_wifeHeat_15 <| ks_H_wifeHeat_16 <| ks_H_wifeHeat_20 <| ks_H_wifeHeat_21 ?_
    rw [show kh_wife v w f = kh_plain v w f + 1 by unfold kh_wife; rw [if_pos h12]] at k
    exact k
theorem kt_H_heatBy (hr : kq_hr r = true) (ha : kc_at μ r v) (hv : kh_ok v) (hw : w < kh_c v) (hf : f < 8) (k : Q (some (kq_I (kh_heat v w f))) μ) : kq_Call (d + 3) km_H_heatBy [kq_R r 1, kq_I (nI w), kq_I (nI f)] μ Q := by
  have hw8 : w < 8 := Nat.lt_of_lt_of_le hw hv.1
  refine ke_H_heatBy ?_
  refine ks_H_heatBy_0 <| ks_H_heatBy_1 (by first | rfl | assumption) <| ks_H_heatBy_4 <| ks_H_heatBy_5n (by first | rfl | assumption) (by omega) <| ks_H_heatBy_6 (fun h6 => ?_) (fun h6 => ?_) (fun h6 => ?_) (fun h6 => ?_) (fun h6 => ?_) (fun h6 => ?_)
  · rw [ha.k hw] at h6
    refine ks_H_heatBy_40 <| ks_H_heatBy_41 <| ks_H_heatBy_42 <| ks_H_heatBy_43 (by first | rfl | assumption) (Nat.le_of_ble_eq_true rfl) ?_
    refine kt_H_plumberHeat hr ha hv hw hf ?_
    refine ks_H_heatBy_46 ?_
    rw [show kh_heat v w f = kh_plumb v w f by unfold kh_heat; rw [if_pos h6]] at k
    exact k
  · rw [ha.k hw] at h6
    refine ks_H_heatBy_47 <| ks_H_heatBy_48 <| ks_H_heatBy_49 <| ks_H_heatBy_50 (by first | rfl | assumption) (Nat.le_of_ble_eq_true rfl) ?_
    refine kt_H_wifeHeat hr ha hv hw ?_
    refine ks_H_heatBy_53 ?_
    rw [show kh_heat v w f = kh_wife v w f by unfold kh_heat; rw [if_neg (by rw [h6]; decide), if_pos h6]] at k
    exact k
  · rw [ha.k hw] at h6
    refine ks_H_heatBy_54 <| ks_H_heatBy_55 (by first | rfl | assumption) <| ks_H_heatBy_58 <| ks_H_heatBy_59n (by first | rfl | assumption) (by omega) <| ks_H_heatBy_60 <| ks_H_heatBy_61 ?_
    rw [show kh_heat v w f = -(kh_u v w) by unfold kh_heat; rw [if_neg (by rw [h6]; decide), if_neg (by rw [h6]; decide), if_pos h6]] at k
    rw [ha.u hw]
    exact k
  · rw [ha.k hw] at h6
    refine ks_H_heatBy_62 <| ks_H_heatBy_63 <| ks_H_heatBy_64 <| ks_H_heatBy_65 (by first | rfl | assumption) (Nat.le_of_ble_eq_true rfl) ?_
    refine kt_H_plumberHeat hr ha hv hw hf ?_
    refine ks_H_heatBy_68 <| ks_H_heatBy_69 <| ks_H_heatBy_70 <| ks_H_heatBy_71 <| ks_H_heatBy_72 (by first | rfl | assumption) (Nat.le_of_ble_eq_true rfl) ?_
    refine kt_H_wrongSet hr ha hv hw ?_
    refine ks_H_heatBy_75 <| ks_H_heatBy_76 (Nat.le_of_ble_eq_true rfl) ?_
    refine kt_K_isIn ?_
    have e : kh_heat v w f = kh_plumb v w f / 2 + (if kh_bit (kh_wrong v w) f then 1 else 0) := by unfold kh_heat; rw [if_neg (by rw [h6]; decide), if_neg (by rw [h6]; decide), if_neg (by rw [h6]; decide), if_pos h6]
    refine ks_H_heatBy_79 (fun h79 => ?_) (fun h79 => ?_)
    · have h79 := kq_b_f h79
      refine ks_H_heatBy_86 <| ks_H_heatBy_87 <| ks_H_heatBy_88 ?_
      rw [e, if_neg (by rw [h79]; decide)] at k
      exact k
    · have h79 := kq_b_t h79
      refine ks_H_heatBy_82 <| ks_H_heatBy_83 <| ks_H_heatBy_87 <| ks_H_heatBy_88 ?_
      rw [e, if_pos h79] at k
      exact k
  · rw [ha.k hw] at h6
    have e : kh_heat v w f = if 15 < kh_H v then 0 else kh_wife v w f := by unfold kh_heat; rw [if_neg (by rw [h6]; decide), if_neg (by rw [h6]; decide), if_neg (by rw [h6]; decide), if_neg (by rw [h6]; decide), if_pos h6]
    refine ks_H_heatBy_89 <| ks_H_heatBy_90 (by first | rfl | assumption) <| ks_H_heatBy_93 <| ks_H_heatBy_95 (fun h95 => ?_) (fun h95 => ?_)
    · rw [ha.H] at h95
      refine ks_H_heatBy_102 <| ks_H_heatBy_103 <| ks_H_heatBy_104 <| ks_H_heatBy_105 (by first | rfl | assumption) (Nat.le_of_ble_eq_true rfl) ?_
      refine kt_H_wifeHeat hr ha hv hw ?_
      refine ks_H_heatBy_108 ?_
      rw [e, if_neg (by rw [ki_le] at h95; rw [ki_lt]; omega)] at k
      exact k
    · rw [ha.H] at h95
      refine ks_H_heatBy_98 <| ks_H_heatBy_99 <| ks_H_heatBy_108 ?_
      rw [e, if_pos (by rw [ki_le] at h95; rw [ki_lt]; omega)] at k
      exact k
  · rw [ha.k hw] at h6
    refine ks_H_heatBy_109 <| ks_H_heatBy_110 <| ks_H_heatBy_111 <| ks_H_heatBy_112 (by first | rfl | assumption) (Nat.le_of_ble_eq_true rfl) ?_
    refine kt_H_witnessHeat hr ha hv hw ?_
    refine ks_H_heatBy_115 ?_
    have e : kh_heat v w f = kh_plain v w f := by
      unfold kh_heat
      rw [if_neg (fun q => by rw [q] at h6; revert h6; decide), if_neg (fun q => by rw [q] at h6; revert h6; decide), if_neg (fun q => by rw [q] at h6; revert h6; decide), if_neg (fun q => by rw [q] at h6; revert h6; decide), if_neg (fun q => by rw [q] at h6; revert h6; decide)]
    rw [e] at k
    exact k
end KT2
