/-! THE REFERENCE: minutes, copies of the row, who is added, who changes places -/
section KM3
variable {d w f : Nat} {μ : kq_M} {v : kh_S} {z : kz_S} {Q : Option kq_V → kq_M → Prop}
theorem kt_M_whose (ha : kr_at μ 21 v) (hv : kh_ok v) (k : Q (some (kq_I (if kh_c v = 0 then -1 else nI (kh_who v)))) μ) : kq_Call d km_M_whose [kq_R 0 20] μ Q := by
  have hc8 := hv.1
  have hm := hv.2.2.2.2.2.2.1
  refine ke_M_whose ?_
  refine ks_M_whose_0 <| ks_M_whose_1 <| ks_M_whose_4 <| ks_M_whose_6 <| ks_M_whose_7 (fun h7 => ?_) (fun h7 => ?_)
  · rw [ha.c] at h7
    have hc : 0 < kh_c v := Nat.pos_of_ne_zero (fun q => h7 (by rw [q]; rfl))
    have hne : ¬ kq_rI μ 0 21 6 = 0 := by rw [ha.c]; exact h7
    rw [if_neg (by omega)] at k
    refine ks_M_whose_14 <| ks_M_whose_15 <| ks_M_whose_18 <| ks_M_whose_19 <| ks_M_whose_20 <| ks_M_whose_21 <| ks_M_whose_24 <| ks_M_whose_26 <| ks_M_whose_27 (by assumption) <| ks_M_whose_28 ?_
    rw [ha.c, ha.m, pk_rem (by omega) hc (by omega)]
    exact k
  · rw [ha.c] at h7
    have hc : kh_c v = 0 := by rw [ki_eq, ki_0, nI_toInt (by omega)] at h7; omega
    rw [if_pos hc] at k
    refine ks_M_whose_10 <| ks_M_whose_11 <| ks_M_whose_28 ?_
    exact k
theorem kt_M_asked (ha : kr_at μ 21 v) (hv : kh_ok v) (k : Q (some (kq_I (if kh_c v = 0 then 0 else nI (kh_ask v)))) μ) : kq_Call d km_M_asked [kq_R 0 20] μ Q := by
  have hc8 := hv.1
  have hm := hv.2.2.2.2.2.2.1
  refine ke_M_asked ?_
  refine ks_M_asked_0 <| ks_M_asked_1 <| ks_M_asked_4 <| ks_M_asked_6 <| ks_M_asked_7 (fun h7 => ?_) (fun h7 => ?_)
  · rw [ha.c] at h7
    have hc : 0 < kh_c v := Nat.pos_of_ne_zero (fun q => h7 (by rw [q]; rfl))
    have hne : ¬ kq_rI μ 0 21 6 = 0 := by rw [ha.c]; exact h7
    rw [if_neg (by omega)] at k
    have hle : kh_m v / kh_c v ≤ kh_m v := Nat.div_le_self _ _
    refine ks_M_asked_14 <| ks_M_asked_15 <| ks_M_asked_18 <| ks_M_asked_19 <| ks_M_asked_20 <| ks_M_asked_21 <| ks_M_asked_24 <| ks_M_asked_26 <| ks_M_asked_27 (by assumption) <| ks_M_asked_28 <| ks_M_asked_30 <| ks_M_asked_31 ?_
    rw [ha.c, ha.m, pk_div (by omega) hc (by omega), show (8 : Int32) = nI 8 from rfl, pk_rem (by omega) (by decide) (by decide)]
    exact k
  · rw [ha.c] at h7
    have hc : kh_c v = 0 := by rw [ki_eq, ki_0, nI_toInt (by omega)] at h7; omega
    rw [if_pos hc] at k
    refine ks_M_asked_10 <| ks_M_asked_11 <| ks_M_asked_31 ?_
    exact k
theorem kt_M_oneMinute (ha : kr_at μ 21 v) (hv : kh_ok v) (k : ∀ μ', kr_at μ' 21 (kh_min v) → kM_m μ μ' → kq_rI μ' 0 20 2 = kq_b (kh_minB v) → Q none μ') : kq_Call (d + 6) km_M_oneMinute [kq_R 0 20] μ Q := by
  have hc8 := hv.1
  have hm := hv.2.2.2.2.2.2.1
  have a1 : kr_at (kq_wI μ 0 20 2 0) 21 v := ha.flag
  refine ke_M_oneMinute ?_
  refine ks_M_oneMinute_0 <| ks_M_oneMinute_1 <| ks_M_oneMinute_2 <| ks_M_oneMinute_5 <| ks_M_oneMinute_6 <| ks_M_oneMinute_9 <| ks_M_oneMinute_11 <| ks_M_oneMinute_12 (fun h12 => ?_) (fun h12 => ?_)
  · rw [a1.c] at h12
    have hc : 0 < kh_c v := Nat.pos_of_ne_zero (fun q => h12 (by rw [q]; rfl))
    refine ks_M_oneMinute_38 <| ks_M_oneMinute_39 <| ks_M_oneMinute_40 (Nat.le_of_ble_eq_true rfl) ?_
    refine kt_M_whose a1 hv ?_
    refine ks_M_oneMinute_43 <| ks_M_oneMinute_44 (Nat.le_of_ble_eq_true rfl) ?_
    refine kt_M_asked a1 hv ?_
    rw [if_neg (by omega), if_neg (by omega)]
    refine ks_M_oneMinute_47 (Nat.le_of_ble_eq_true rfl) ?_
    refine kt_M_answers a1 hv (Nat.mod_lt _ hc) (Nat.mod_lt _ (by decide)) (fun μ2 a2 f2 b2 => ?_)
    refine ks_M_oneMinute_50 <| ks_M_oneMinute_51 <| ks_M_oneMinute_54 <| ks_M_oneMinute_55 rfl rfl <| ks_M_oneMinute_56 <| ks_M_oneMinute_57 <| ks_M_oneMinute_58 <| ks_M_oneMinute_59 <| ks_M_oneMinute_60 ?_
    have e : kh_min v = kh_setM (kh_ans v (kh_who v) (kh_ask v)) (kh_m v + 1) := if_neg (by omega)
    have e' : kh_minB v = kh_boil v (kh_who v) (kh_ask v) := if_neg (by omega)
    rw [e, e'] at k
    rw [a2.m]
    refine k _ (a2.wm (nI_1 _)) (kM_m.rf.flag.tr f2).row ?_
    rw [kc_wr (fun q => absurd q.1 (by decide))]
    exact b2
  · rw [a1.c] at h12
    have hc : kh_c v = 0 := by rw [ki_eq, ki_0, nI_toInt (by omega)] at h12; omega
    refine ks_M_oneMinute_15 <| ks_M_oneMinute_16 <| ks_M_oneMinute_19 <| ks_M_oneMinute_20 <| ks_M_oneMinute_21 <| ks_M_oneMinute_24 <| ks_M_oneMinute_25 <| ks_M_oneMinute_26 <| ks_M_oneMinute_27 <| ks_M_oneMinute_28 <| ks_M_oneMinute_29 <| ks_M_oneMinute_31 (Nat.le_of_ble_eq_true rfl) ?_
    refine kt_M_held ?_
    rw [a1.H]
    have a2 := a1.wH (x := kh_clamp (kh_H v - 1) 0 99)
    refine ks_M_oneMinute_34 <| ks_M_oneMinute_35 <| ks_M_oneMinute_50 <| ks_M_oneMinute_51 <| ks_M_oneMinute_54 <| ks_M_oneMinute_55 rfl rfl <| ks_M_oneMinute_56 <| ks_M_oneMinute_57 <| ks_M_oneMinute_58 <| ks_M_oneMinute_59 <| ks_M_oneMinute_60 ?_
    have e : kh_min v = kh_setM (kh_setH v (kh_clamp (kh_H v - 1) 0 99)) (kh_m v + 1) := if_pos hc
    have e' : kh_minB v = false := if_pos hc
    rw [e, e'] at k
    rw [a2.m]
    refine k _ (a2.wm (nI_1 _)) kM_m.rf.flag.row.row ?_
    rw [kc_wr (fun q => absurd q.1 (by decide)), kc_wr (fun q => absurd q.1 (by decide)), kc_ws]
    rfl
theorem kt_M_passes {n : Nat} (ha : kr_at μ 21 v) (hv : kh_ok v) (hn : kh_m v + n < 1000000) (k : ∀ μ', kr_at μ' 21 (kh_pass n v) → kM_m μ μ' → Q none μ') : kq_Call (d + 7) km_M_passes [kq_R 0 20, kq_I (nI n)] μ Q := by
  have loop : ∀ (q i : Nat) (μ1 : kq_M), i + q = n → kr_at μ1 21 (kh_pass i v) → kM_m μ μ1 → kq_S km_M_passes (d + 7) 2 [some (kq_R 0 20), some (kq_I (nI n)), some (kq_I (nI i))] [] μ1 Q := by
    intro q
    induction q with
    | zero =>
      intro i μ1 hi a1 f1
      refine ks_M_passes_2 <| ks_M_passes_3 <| ks_M_passes_4 (fun h4 => ?_) (fun h4 => ?_)
      · refine ks_M_passes_17 ?_
        rw [show i = n by omega] at a1
        exact k μ1 a1 f1
      · exact absurd (nI_le (show n ≤ i by omega) (by omega)) h4
    | succ q ih =>
      intro i μ1 hi a1 f1
      refine ks_M_passes_2 <| ks_M_passes_3 <| ks_M_passes_4 (fun h4 => ?_) (fun h4 => ?_)
      · exact absurd h4 (nI_ge (show i < n by omega) (by omega))
      · refine ks_M_passes_7 <| ks_M_passes_8 (Nat.le_of_ble_eq_true rfl) ?_
        refine kt_M_oneMinute a1 (kh_pass_ok i v hv (by omega)) (fun μ2 a2 f2 _ => ?_)
        refine ks_M_passes_11n rfl <| ks_M_passes_14 ?_
        rw [← kh_pass_s] at a2
        exact ih (i + 1) μ2 (by omega) a2 (f1.tr f2)
  refine ke_M_passes ?_
  refine ks_M_passes_0 <| ks_M_passes_1 rfl ?_
  exact loop n 0 μ (by omega) ha kM_m.rf
theorem kt_M_keep {i : Nat} (hi : kq_ck i = 1) (h5 : Nat.beq i 45 = false) (hok : kq_ok i 0 = true) (hl : kq_len i = 39) (hne : i ≠ 21) (k : ∀ μ', (∀ q, q < 39 → kq_rI μ' 0 i q = kq_rI μ 0 21 q) → kq_fr (fun a b => a = 0 ∧ b = i) μ μ' → Q none μ') : kq_Call d km_M_moveAll [kq_R 0 20, kq_I 1, kq_R 0 i] μ Q := by
  have loop : ∀ (q j : Nat) (μ1 : kq_M), j + q = 39 → (∀ x, x < j → kq_rI μ1 0 i x = kq_rI μ 0 21 x) → kq_fr (fun a b => a = 0 ∧ b = i) μ μ1 → kq_S km_M_moveAll d 2 [some (kq_R 0 20), some (kq_I 1), some (kq_R 0 i), some (kq_I (nI j))] [] μ1 Q := by
    intro q
    induction q with
    | zero =>
      intro j μ1 hj e f1
      refine ks_M_moveAll_2 <| ks_M_moveAll_3 <| ks_M_moveAll_5 (fun h5 => ?_) (fun h5 => ?_)
      · refine ks_M_moveAll_39 ?_
        exact k μ1 (fun x hx => e x (by omega)) f1
      · exact absurd (show (39 : Int32) ≤ nI j by rw [show j = 39 by omega]; decide) h5
    | succ q ih =>
      intro j μ1 hj e f1
      refine ks_M_moveAll_2 <| ks_M_moveAll_3 <| ks_M_moveAll_5 (fun h5 => ?_) (fun h5 => ?_)
      · exact absurd h5 (by rw [ki_le, show (39 : Int32).toInt = 39 from by decide, nI_toInt (by omega)]; omega)
      · refine ks_M_moveAll_8 <| ks_M_moveAll_9 (fun h9 => ?_) (fun h9 => ?_)
        · exact absurd h9 (by decide)
        · rename Nat.beq i 45 = false => h45
          refine ks_M_moveAll_12 h45 <| ks_M_moveAll_13 <| ks_M_moveAll_14 <| ks_M_moveAll_15 <| ks_M_moveAll_18 <| ks_M_moveAll_19n (by omega) <| ks_M_moveAll_20n hi h45 hok (by rw [hl]; omega) <| ks_M_moveAll_21 <| ks_M_moveAll_33n rfl <| ks_M_moveAll_36 ?_
          refine ih (j + 1) _ (by omega) (fun x hx => ?_) (f1.wI ⟨rfl, rfl⟩)
          by_cases ex : x = j
          · rw [ex, kc_ws]
            exact f1.1 _ _ _ (fun q => hne q.2.symm)
          · rw [kc_wr (fun q => ex q.2)]
            exact e x (by omega)
  refine ke_M_moveAll ?_
  refine ks_M_moveAll_0 <| ks_M_moveAll_1 rfl ?_
  exact loop 39 0 μ rfl (fun x hx => absurd hx (by omega)) kq_fr.rf
theorem kt_M_back {i : Nat} (hi : kq_ck i = 1) (h5 : Nat.beq i 45 = false) (hok : kq_ok i 0 = true) (hl : kq_len i = 39) (hne : i ≠ 21) (k : ∀ μ', (∀ q, q < 39 → kq_rI μ' 0 21 q = kq_rI μ 0 i q) → kq_fr (fun a b => a = 0 ∧ b = 21) μ μ' → Q none μ') : kq_Call d km_M_moveAll [kq_R 0 20, kq_I 0, kq_R 0 i] μ Q := by
  have loop : ∀ (q j : Nat) (μ1 : kq_M), j + q = 39 → (∀ x, x < j → kq_rI μ1 0 21 x = kq_rI μ 0 i x) → kq_fr (fun a b => a = 0 ∧ b = 21) μ μ1 → kq_S km_M_moveAll d 2 [some (kq_R 0 20), some (kq_I 0), some (kq_R 0 i), some (kq_I (nI j))] [] μ1 Q := by
    intro q
    induction q with
    | zero =>
      intro j μ1 hj e f1
      refine ks_M_moveAll_2 <| ks_M_moveAll_3 <| ks_M_moveAll_5 (fun h5 => ?_) (fun h5 => ?_)
      · refine ks_M_moveAll_39 ?_
        exact k μ1 (fun x hx => e x (by omega)) f1
      · exact absurd (show (39 : Int32) ≤ nI j by rw [show j = 39 by omega]; decide) h5
    | succ q ih =>
      intro j μ1 hj e f1
      refine ks_M_moveAll_2 <| ks_M_moveAll_3 <| ks_M_moveAll_5 (fun h5 => ?_) (fun h5 => ?_)
      · exact absurd h5 (by rw [ki_le, show (39 : Int32).toInt = 39 from by decide, nI_toInt (by omega)]; omega)
      · refine ks_M_moveAll_8 <| ks_M_moveAll_9 (fun h9 => ?_) (fun h9 => ?_)
        · rename Nat.beq i 45 = false => h45
          refine ks_M_moveAll_24 <| ks_M_moveAll_25 <| ks_M_moveAll_28 <| ks_M_moveAll_29 h45 <| ks_M_moveAll_30 <| ks_M_moveAll_31n hi h45 hok (by rw [hl]; omega) <| ks_M_moveAll_32n (by omega) <| ks_M_moveAll_33n rfl <| ks_M_moveAll_36 ?_
          refine ih (j + 1) _ (by omega) (fun x hx => ?_) (f1.wI ⟨rfl, rfl⟩)
          by_cases ex : x = j
          · rw [ex, kc_ws]
            exact f1.1 _ _ _ (fun q => hne q.2)
          · rw [kc_wr (fun q => ex q.2)]
            exact e x (by omega)
        · exact absurd rfl h9
  refine ke_M_moveAll ?_
  refine ks_M_moveAll_0 <| ks_M_moveAll_1 rfl ?_
  exact loop 39 0 μ rfl (fun x hx => absurd hx (by omega)) kq_fr.rf
/-- the tea behind n minutes; the row comes back from what was kept -/
theorem kt_M_teaBehind {n : Nat} {v0 : kh_S} (ha : kr_at μ 21 v) (hv : kh_ok v) (hn : kh_m v + n < 1000000) (h0 : kr_at μ 23 v0) (hc0 : kh_c v0 ≤ 8) (k : ∀ μ', kr_at μ' 21 v0 → kr_at μ' 23 v0 → kM_m μ μ' → Q (some (kq_I (kh_E (kh_pass n v)))) μ') : kq_Call (d + 8) km_M_teaBehind [kq_R 0 20, kq_I (nI n)] μ Q := by
  refine ke_M_teaBehind ?_
  refine ks_M_teaBehind_0 <| ks_M_teaBehind_1 <| ks_M_teaBehind_2 (Nat.le_of_ble_eq_true rfl) ?_
  refine kt_M_passes ha hv hn (fun μ1 a1 f1 => ?_)
  refine ks_M_teaBehind_5 <| ks_M_teaBehind_6 <| ks_M_teaBehind_9 <| ks_M_teaBehind_10 <| ks_M_teaBehind_11 rfl <| ks_M_teaBehind_12 <| ks_M_teaBehind_13 <| ks_M_teaBehind_14 <| ks_M_teaBehind_15 <| ks_M_teaBehind_18 (Nat.le_of_ble_eq_true rfl) ?_
  rw [a1.E]
  have h1 : kr_at μ1 23 v0 := h0.fr f1.1 (fun q => by rcases q.2 with e | e <;> cases e)
  refine kt_M_back (i := 23) rfl rfl rfl rfl (by decide) (fun μ2 e2 f2 => ?_)
  refine ks_M_teaBehind_21 <| ks_M_teaBehind_22 ?_
  refine k μ2 (h1.cp hc0 e2) (h1.fr f2 (fun q => by cases q.2)) (f1.tr ⟨f2.mono (fun a b q => ⟨q.1, Or.inr q.2⟩), fun c _ => f2.1 _ _ _ (fun q => by cases q.2)⟩)
theorem kr_at.add {i : Nat} {kd s n u x : Int32} (h : kr_at μ i v) (hx : x = nI (kh_c v + 1)) : kr_at (kq_wI (kq_wI (kq_wI (kq_wI (kq_wI μ 0 i (7 + 4 * kh_c v) kd) 0 i (7 + 4 * kh_c v + 1) n) 0 i (7 + 4 * kh_c v + 2) s) 0 i (7 + 4 * kh_c v + 3) u) 0 i 6 x) i (kh_add v kd s n u) := by
  have sc : ∀ c, c < 6 → kq_rI (kq_wI (kq_wI (kq_wI (kq_wI (kq_wI μ 0 i (7 + 4 * kh_c v) kd) 0 i (7 + 4 * kh_c v + 1) n) 0 i (7 + 4 * kh_c v + 2) s) 0 i (7 + 4 * kh_c v + 3) u) 0 i 6 x) 0 i c = kq_rI μ 0 i c := fun c hc => by
    rw [kc_wr (fun q => by have := q.2; omega), kc_wr (fun q => by have := q.2; omega), kc_wr (fun q => by have := q.2; omega), kc_wr (fun q => by have := q.2; omega), kc_wr (fun q => by have := q.2; omega)]
  refine ⟨(sc 0 (by decide)).trans h.m, (sc 1 (by decide)).trans h.H, (sc 2 (by decide)).trans h.W, (sc 3 (by decide)).trans h.E, (sc 4 (by decide)).trans h.B, (sc 5 (by decide)).trans h.T, kc_ws.trans hx, fun w hw => ?_, fun w hw => ?_, fun w hw => ?_, fun w hw => ?_⟩
  · show _ = kh_up (kh_k v) (kh_c v) kd w
    unfold kh_up
    rw [kc_wr (fun q => by have := q.2; omega), kc_wr (fun q => by have := q.2; omega), kc_wr (fun q => by have := q.2; omega), kc_wr (fun q => by have := q.2; omega)]
    by_cases e : w = kh_c v
    · rw [if_pos e, e, kc_ws]
    · rw [if_neg e, kc_wr (fun q => by have := q.2; omega)]
      exact h.k (by have : w < kh_c v + 1 := hw; omega)
  · show _ = kh_up (kh_n v) (kh_c v) n w
    unfold kh_up
    rw [kc_wr (fun q => by have := q.2; omega), kc_wr (fun q => by have := q.2; omega), kc_wr (fun q => by have := q.2; omega)]
    by_cases e : w = kh_c v
    · rw [if_pos e, e, kc_ws]
    · rw [if_neg e, kc_wr (fun q => by have := q.2; omega), kc_wr (fun q => by have := q.2; omega)]
      exact h.n (by have : w < kh_c v + 1 := hw; omega)
  · show _ = kh_up (kh_s v) (kh_c v) s w
    unfold kh_up
    rw [kc_wr (fun q => by have := q.2; omega), kc_wr (fun q => by have := q.2; omega)]
    by_cases e : w = kh_c v
    · rw [if_pos e, e, kc_ws]
    · rw [if_neg e, kc_wr (fun q => by have := q.2; omega), kc_wr (fun q => by have := q.2; omega), kc_wr (fun q => by have := q.2; omega)]
      exact h.s (by have : w < kh_c v + 1 := hw; omega)
  · show _ = kh_up (kh_u v) (kh_c v) u w
    unfold kh_up
    rw [kc_wr (fun q => by have := q.2; omega)]
    by_cases e : w = kh_c v
    · rw [if_pos e, e, kc_ws]
    · rw [if_neg e, kc_wr (fun q => by have := q.2; omega), kc_wr (fun q => by have := q.2; omega), kc_wr (fun q => by have := q.2; omega), kc_wr (fun q => by have := q.2; omega)]
      exact h.u (by have : w < kh_c v + 1 := hw; omega)
theorem kt_M_adds {kd s n u : Int32} (ha : kr_at μ 21 v) (hc : kh_c v < 8) (k : ∀ μ', kr_at μ' 21 (kh_add v kd s n u) → kM_m μ μ' → Q none μ') : kq_Call (d + 1) km_M_adds [kq_R 0 20, kq_I kd, kq_I u, kq_I n, kq_I s] μ Q := by
  refine ke_M_adds ?_
  refine ks_M_adds_0 <| ks_M_adds_1 <| ks_M_adds_4 <| ks_M_adds_6 <| ks_M_adds_7 rfl <| ks_M_adds_9 <| ks_M_adds_10 <| ks_M_adds_12 <| ks_M_adds_13 <| ks_M_adds_14 (Nat.le_of_ble_eq_true rfl) ?_
  rw [ha.c]
  refine kt_M_puts (q := 0) hc (by decide) ?_
  refine ks_M_adds_17 <| ks_M_adds_18 <| ks_M_adds_20 <| ks_M_adds_21 <| ks_M_adds_22 (Nat.le_of_ble_eq_true rfl) ?_
  refine kt_M_puts (q := 1) hc (by decide) ?_
  refine ks_M_adds_25 <| ks_M_adds_26 <| ks_M_adds_28 <| ks_M_adds_29 <| ks_M_adds_31 (Nat.le_of_ble_eq_true rfl) ?_
  refine kt_M_puts (q := 2) hc (by decide) ?_
  refine ks_M_adds_34 <| ks_M_adds_35 <| ks_M_adds_37 <| ks_M_adds_38 <| ks_M_adds_39 (Nat.le_of_ble_eq_true rfl) ?_
  refine kt_M_puts (q := 3) hc (by decide) ?_
  refine ks_M_adds_42 <| ks_M_adds_43 <| ks_M_adds_46 <| ks_M_adds_48 rfl rfl <| ks_M_adds_49 <| ks_M_adds_50 <| ks_M_adds_51 <| ks_M_adds_52 <| ks_M_adds_53 ?_
  refine k _ (ha.add ?_) kM_m.rf.row.row.row.row.row
  rw [kc_wr (fun q => by have := q.2; omega), kc_wr (fun q => by have := q.2; omega), kc_wr (fun q => by have := q.2; omega), kc_wr (fun q => by have := q.2; omega), ha.c, nI_1]
end KM3
