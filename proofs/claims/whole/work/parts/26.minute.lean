/-! THE CLASS's HALL: minutes, copies, swaps, sums -/
def kh_add (v : kh_S) (k s n u : Int32) : kh_S := kh_mk (kh_T v) (kh_H v) (kh_W v) (kh_B v) (kh_E v) (kh_m v) (kh_c v + 1) (kh_up (kh_k v) (kh_c v) k) (kh_up (kh_n v) (kh_c v) n) (kh_up (kh_s v) (kh_c v) s) (kh_up (kh_u v) (kh_c v) u)
def kh_xch (f : Nat → Int32) (a b : Nat) : Nat → Int32 := fun j => if j = b then f a else if j = a then f b else f j
def kh_swap (v : kh_S) (a b : Nat) : kh_S := kh_mk (kh_T v) (kh_H v) (kh_W v) (kh_B v) (kh_E v) (kh_m v) (kh_c v) (kh_xch (kh_k v) a b) (kh_xch (kh_n v) a b) (kh_xch (kh_s v) a b) (kh_xch (kh_u v) a b)
/-- whether numbers are the heat by minutes -/
def kh_goes (g : Nat → Int64) : Nat → Nat → kh_S → Bool
  | 0, _, _ => true
  | n + 1, i, v => decide ((kh_H v).toInt64 = g i) && kh_goes g n (i + 1) (kh_min v)
def kh_popN : Nat → Nat → Nat
  | 0, _ => 0
  | n + 1, a => (if a % 2 = 1 then 1 else 0) + kh_popN n (a / 2)
def kh_pop (a : Nat) : Nat := kh_popN 8 a
def kh_nat (x : Int32) : Nat := x.toInt.toNat
def kh_liesN (v : kh_S) : Nat → Nat
  | 0 => 0
  | n + 1 => kh_liesN v n + kh_pop (kh_nat (kh_lie v n))
def kh_sureN (v : kh_S) : Nat → Int32
  | 0 => 0
  | n + 1 => kh_sureN v n + kh_u v n
theorem kh_nat_nI {n : Nat} (h : n < 2 ^ 31) : kh_nat (nI n) = n := by
  unfold kh_nat
  rw [nI_toInt h]
  rfl
section KT4
variable {d r w f : Nat} {μ : kq_M} {v : kh_S} {Q : Option kq_V → kq_M → Prop}
theorem kt_H_whoseTurn (hr : kq_hr r = true) (ha : kc_at μ r v) (hv : kh_ok v) (hc : 0 < kh_c v) (k : Q (some (kq_I (nI (kh_who v)))) μ) : kq_Call d km_H_whoseTurn [kq_R r 1] μ Q := by
  have hc8 := hv.1
  have hm := hv.2.2.2.2.2.2.1
  have hne : ¬ kq_rI μ r 1 6 = 0 := by rw [ha.c]; exact nI_ne0 hc (by omega)
  refine ke_H_whoseTurn ?_
  refine ks_H_whoseTurn_0 <| ks_H_whoseTurn_1 (by first | rfl | assumption) <| ks_H_whoseTurn_4 (fun h4 => ?_) (fun h4 => ?_)
  · rw [ha.c] at h4
    exact absurd h4 (nI_nle hc (by omega))
  · refine ks_H_whoseTurn_7 <| ks_H_whoseTurn_8 (by first | rfl | assumption) <| ks_H_whoseTurn_11 <| ks_H_whoseTurn_12 (by first | rfl | assumption) <| ks_H_whoseTurn_15 (by assumption) <| ks_H_whoseTurn_16 <| ks_H_whoseTurn_20 ?_
    rw [ha.c, ha.m, pk_rem (by omega) hc (by omega)]
    exact k
theorem kt_H_factAsked (hr : kq_hr r = true) (ha : kc_at μ r v) (hv : kh_ok v) (hc : 0 < kh_c v) (k : Q (some (kq_I (nI (kh_ask v)))) μ) : kq_Call d km_H_factAsked [kq_R r 1] μ Q := by
  have hc8 := hv.1
  have hm := hv.2.2.2.2.2.2.1
  have hne : ¬ kq_rI μ r 1 6 = 0 := by rw [ha.c]; exact nI_ne0 hc (by omega)
  refine ke_H_factAsked ?_
  refine ks_H_factAsked_0 <| ks_H_factAsked_1 (by first | rfl | assumption) <| ks_H_factAsked_4 (fun h4 => ?_) (fun h4 => ?_)
  · rw [ha.c] at h4
    exact absurd h4 (nI_nle hc (by omega))
  · refine ks_H_factAsked_7 <| ks_H_factAsked_8 (by first | rfl | assumption) <| ks_H_factAsked_11 <| ks_H_factAsked_12 (by first | rfl | assumption) <| ks_H_factAsked_15 (by assumption) <| ks_H_factAsked_16 <| ks_H_factAsked_18 <| ks_H_factAsked_19 <| ks_H_factAsked_23 ?_
    have hle : kh_m v / kh_c v ≤ kh_m v := Nat.div_le_self _ _
    rw [ha.c, ha.m, pk_div (by omega) hc (by omega), show (8 : Int32) = nI 8 from rfl, pk_rem (by omega) (by decide) (by decide)]
    exact k
theorem kt_H_passMinute (hr : kq_hr r = true) (ha : kc_at μ r v) (hv : kh_ok v) (k : ∀ μ', kc_at μ' r (kh_min v) → kq_fr (kc_P r) μ μ' → Q (some (kq_I (kq_b (kh_minB v)))) μ') : kq_Call (d + 5) km_H_passMinute [kq_R r 1] μ Q := by
  have hc8 := hv.1
  have hm := hv.2.2.2.2.2.2.1
  have hP1 : kc_P r r 1 := ⟨rfl, by decide, by decide⟩
  refine ke_H_passMinute ?_
  refine ks_H_passMinute_0 <| ks_H_passMinute_1 rfl <| ks_H_passMinute_2 <| ks_H_passMinute_3 (by first | rfl | assumption) <| ks_H_passMinute_6 (fun h6 => ?_) (fun h6 => ?_)
  · rw [ha.c] at h6
    have hc : kh_c v = 0 := by
      rw [ki_le, nI_toInt (by omega), ki_0] at h6
      omega
    refine ks_H_passMinute_25 <| ks_H_passMinute_26 <| ks_H_passMinute_27 <| ks_H_passMinute_28 (by first | rfl | assumption) <| ks_H_passMinute_31 <| ks_H_passMinute_32 <| ks_H_passMinute_33 (Nat.le_of_ble_eq_true rfl) <| ks_H_passMinute_36 (by first | rfl | assumption) <| ks_H_passMinute_39 <| ks_H_passMinute_40 rfl <| ks_H_passMinute_41 (by first | rfl | assumption) <| ks_H_passMinute_44 <| ks_H_passMinute_45 <| ks_H_passMinute_46 (by first | rfl | assumption) <| ks_H_passMinute_49 <| ks_H_passMinute_50 (by first | exact kq_b01' _ | exact Or.inl rfl | exact Or.inr rfl | assumption) ?_
    have hH := hv.2.2.1
    rw [kh_in_iff, ki_0, ki_99] at hH
    rw [ha.H]
    rw [show (if (0 : Int32) < kh_H v - 1 then kh_H v - 1 else 0) = kh_clamp (kh_H v - 1) 0 99 from kh_max0 (by rw [ki_sub (by omega) (by rw [ki_1]; omega), ki_1, ki_99]; omega) (by decide)]
    have a1 := ha.wH (x := kh_clamp (kh_H v - 1) 0 99)
    rw [a1.m]
    have e1 : kh_min v = kh_setM (kh_setH v (kh_clamp (kh_H v - 1) 0 99)) (kh_m v + 1) := by unfold kh_min; rw [if_pos hc]
    have e2 : kh_minB v = false := by unfold kh_minB; rw [if_pos hc]
    rw [e1, e2] at k
    exact k _ (a1.wm (nI_1 _)) ((kq_fr.rf.wI hP1).wI hP1)
  · rw [ha.c] at h6
    have hc : 0 < kh_c v := by
      rw [ki_le, nI_toInt (by omega), ki_0] at h6
      omega
    have e1 : kh_min v = kh_setM (kh_ans v (kh_who v) (kh_ask v)) (kh_m v + 1) := by unfold kh_min; rw [if_neg (by omega)]
    have e2 : kh_minB v = kh_boil v (kh_who v) (kh_ask v) := by unfold kh_minB; rw [if_neg (by omega)]
    rw [e1, e2] at k
    refine ks_H_passMinute_9 <| ks_H_passMinute_10 <| ks_H_passMinute_11 (by first | rfl | assumption) (Nat.le_of_ble_eq_true rfl) ?_
    refine kt_H_whoseTurn hr ha hv hc ?_
    refine ks_H_passMinute_14 <| ks_H_passMinute_15 (by first | rfl | assumption) (Nat.le_of_ble_eq_true rfl) ?_
    refine kt_H_factAsked hr ha hv hc ?_
    refine ks_H_passMinute_18 (by first | rfl | assumption) (Nat.le_of_ble_eq_true rfl) ?_
    refine kt_H_hearAnswer hr ha hv (Nat.mod_lt _ hc) (Nat.mod_lt _ (by decide)) (fun μ1 a1 f1 => ?_)
    refine ks_H_passMinute_21 rfl <| ks_H_passMinute_22 <| ks_H_passMinute_39 <| ks_H_passMinute_40 rfl <| ks_H_passMinute_41 (by first | rfl | assumption) <| ks_H_passMinute_44 <| ks_H_passMinute_45 <| ks_H_passMinute_46 (by first | rfl | assumption) <| ks_H_passMinute_49 <| ks_H_passMinute_50 (by first | exact kq_b01' _ | exact Or.inl rfl | exact Or.inr rfl | assumption) ?_
    rw [a1.m]
    exact k _ (a1.wm (nI_1 _)) (f1.wI hP1)
theorem kt_H_teaAfter {n : Nat} (hr : kq_hr r = true) (ha : kc_at μ r v) (hv : kh_ok v) (hn : kh_m v + n < 1000000) (k : ∀ μ', kc_at μ' r (kh_pass n v) → kq_fr (kc_P r) μ μ' → Q (some (kq_I (kh_E (kh_pass n v)))) μ') : kq_Call (d + 6) km_H_teaAfter [kq_R r 1, kq_I (nI n)] μ Q := by
  have loop : ∀ (j i : Nat) (μ1 : kq_M) (v1 : kh_S), i + j = n → kc_at μ1 r v1 → kh_ok v1 → kh_m v1 + j < 1000000 → kh_pass j v1 = kh_pass n v → kq_fr (kc_P r) μ μ1 → kq_S km_H_teaAfter (d + 6) 2 [some (kq_R r 1), some (kq_I (nI n)), some (kq_I (nI i))] [] μ1 Q := by
    intro j
    induction j with
    | zero =>
      intro i μ1 v1 hi a1 o1 hm hp f1
      refine ks_H_teaAfter_2 <| ks_H_teaAfter_3 <| ks_H_teaAfter_4 (fun h4 => ?_) (fun h4 => ?_)
      · refine ks_H_teaAfter_18 <| ks_H_teaAfter_19 (by first | rfl | assumption) <| ks_H_teaAfter_22 ?_
        rw [a1.E]
        rw [← hp] at k
        exact k μ1 a1 f1
      · exact absurd (nI_le (show n ≤ i by omega) (by omega)) h4
    | succ j ih =>
      intro i μ1 v1 hi a1 o1 hm hp f1
      refine ks_H_teaAfter_2 <| ks_H_teaAfter_3 <| ks_H_teaAfter_4 (fun h4 => ?_) (fun h4 => ?_)
      · exact absurd h4 (nI_ge (show i < n by omega) (by omega))
      · refine ks_H_teaAfter_7 <| ks_H_teaAfter_8 (by first | rfl | assumption) (Nat.le_of_ble_eq_true rfl) ?_
        refine kt_H_passMinute hr a1 o1 (fun μ2 a2 f2 => ?_)
        refine ks_H_teaAfter_11 rfl <| ks_H_teaAfter_12n rfl <| ks_H_teaAfter_15 ?_
        exact ih (i + 1) μ2 (kh_min v1) (by omega) a2 (kh_min_ok o1 (by omega)) (by rw [kh_min_m]; omega) hp (f1.tr f2)
  refine ke_H_teaAfter ?_
  refine ks_H_teaAfter_0 <| ks_H_teaAfter_1 rfl ?_
  exact loop n 0 μ v (by omega) ha hv hn rfl kq_fr.rf
/-- the callee's region is another one -/
theorem kt_H_become {r2 : Nat} (hr : kq_hr r = true) (hr2 : kq_hr r2 = true) (hne : r ≠ r2) (ha : kc_at μ r2 v) (hv : kh_ok v) (k : ∀ μ', kc_at μ' r v → kq_fr (kc_P r) μ μ' → Q none μ') : kq_Call d km_H_become [kq_R r 1, kq_R r2 1] μ Q := by
  have hc8 := hv.1
  have hP : ∀ i, 1 ≤ i → i ≤ 5 → kc_P r r i := fun i h1 h2 => ⟨rfl, h1, h2⟩
  have ot : ∀ (μ1 : kq_M) (a b c e : Nat) (x : Int32), kq_rI (kq_wI μ1 r a b x) r2 c e = kq_rI μ1 r2 c e := fun μ1 a b c e x => by
    rw [kq_rI_wI, if_neg (fun q => hne q.1.symm)]
  have loop : ∀ (j i : Nat) (μ1 : kq_M), i + j = kh_c v → kc_at μ1 r2 v → kq_fr (kc_P r) μ μ1 →
      (kq_rI μ1 r 1 0 = kh_T v ∧ kq_rI μ1 r 1 1 = kh_H v ∧ kq_rI μ1 r 1 2 = kh_W v ∧ kq_rI μ1 r 1 3 = kh_B v ∧ kq_rI μ1 r 1 4 = kh_E v ∧ kq_rI μ1 r 1 5 = nI (kh_m v) ∧ kq_rI μ1 r 1 6 = nI (kh_c v)) →
      (∀ w, w < i → kq_rI μ1 r 2 w = kh_k v w) → (∀ w, w < i → kq_rI μ1 r 3 w = kh_n v w) → (∀ w, w < i → kq_rI μ1 r 4 w = kh_s v w) → (∀ w, w < i → kq_rI μ1 r 5 w = kh_u v w) →
      kq_S km_H_become d 58 [some (kq_R r 1), some (kq_R r2 1), some (kq_I (nI i))] [] μ1 Q := by
    intro j
    induction j with
    | zero =>
      intro i μ1 hi a1 f1 hs h2 h3 h4 h5
      have ei : i = kh_c v := by omega
      subst ei
      refine ks_H_become_58 <| ks_H_become_59 <| ks_H_become_60 (by first | rfl | assumption) <| ks_H_become_63 (fun h63 => ?_) (fun h63 => ?_)
      · refine ks_H_become_126 ?_
        exact k μ1 ⟨hs.1, hs.2.1, hs.2.2.1, hs.2.2.2.1, hs.2.2.2.2.1, hs.2.2.2.2.2.1, hs.2.2.2.2.2.2, h2, h3, h4, h5⟩ f1
      · rw [hs.2.2.2.2.2.2] at h63
        exact absurd (nI_le (Nat.le_refl _) (by omega)) h63
    | succ j ih =>
      intro i μ1 hi a1 f1 hs h2 h3 h4 h5
      have hi8 : i < 8 := by omega
      have hic : i < kh_c v := by omega
      refine ks_H_become_58 <| ks_H_become_59 <| ks_H_become_60 (by first | rfl | assumption) <| ks_H_become_63 (fun h63 => ?_) (fun h63 => ?_)
      · rw [hs.2.2.2.2.2.2] at h63
        exact absurd h63 (nI_ge hic (by omega))
      · refine ks_H_become_66 <| ks_H_become_67 <| ks_H_become_69 (fun h69 => ?_) (fun h69 => ?_)
        · exact absurd h69 (by rw [ki_le, ki_8, nI_toInt (by omega)]; omega)
        · refine ks_H_become_72 <| ks_H_become_73 (by first | rfl | assumption) <| ks_H_become_76 <| ks_H_become_77 <| ks_H_become_78 (by first | rfl | assumption) <| ks_H_become_81 <| ks_H_become_82n (by first | rfl | assumption) (by omega) <| ks_H_become_83n (by first | rfl | assumption) (by omega) <| ks_H_become_84 <| ks_H_become_85 (by first | rfl | assumption) <| ks_H_become_88 <| ks_H_become_89 <| ks_H_become_90 (by first | rfl | assumption) <| ks_H_become_93 <| ks_H_become_94n (by first | rfl | assumption) (by omega) <| ks_H_become_95n (by first | rfl | assumption) (by omega) <| ks_H_become_96 <| ks_H_become_97 (by first | rfl | assumption) <| ks_H_become_100 <| ks_H_become_101 <| ks_H_become_102 (by first | rfl | assumption) <| ks_H_become_105 <| ks_H_become_106n (by first | rfl | assumption) (by omega) <| ks_H_become_107n (by first | rfl | assumption) (by omega) <| ks_H_become_108 <| ks_H_become_109 (by first | rfl | assumption) <| ks_H_become_112 <| ks_H_become_113 <| ks_H_become_114 (by first | rfl | assumption) <| ks_H_become_117 <| ks_H_become_118n (by first | rfl | assumption) (by omega) <| ks_H_become_119n (by first | rfl | assumption) (by omega) <| ks_H_become_120n rfl <| ks_H_become_123 ?_
          simp only [ot]
          have sc : ∀ (μ2 : kq_M) (b w c : Nat) (x : Int32), b ≠ 1 → kq_rI (kq_wI μ2 r b w x) r 1 c = kq_rI μ2 r 1 c := fun μ2 b w c x hb => kc_wr (fun q => hb q.1.symm)
          refine ih (i + 1) _ (by omega) ?_ ?_ ?_ ?_ ?_ ?_ ?_
          · refine ⟨?_, ?_, ?_, ?_, ?_, ?_, ?_, fun w hw => ?_, fun w hw => ?_, fun w hw => ?_, fun w hw => ?_⟩ <;> simp only [ot]
            · exact a1.T
            · exact a1.H
            · exact a1.W
            · exact a1.B
            · exact a1.E
            · exact a1.m
            · exact a1.c
            · exact a1.k hw
            · exact a1.n hw
            · exact a1.s hw
            · exact a1.u hw
          · exact (((f1.wI (hP 2 (by decide) (by decide))).wI (hP 3 (by decide) (by decide))).wI (hP 4 (by decide) (by decide))).wI (hP 5 (by decide) (by decide))
          · rw [sc _ 5 _ _ _ (by decide), sc _ 4 _ _ _ (by decide), sc _ 3 _ _ _ (by decide), sc _ 2 _ _ _ (by decide), sc _ 5 _ _ _ (by decide), sc _ 4 _ _ _ (by decide), sc _ 3 _ _ _ (by decide), sc _ 2 _ _ _ (by decide), sc _ 5 _ _ _ (by decide), sc _ 4 _ _ _ (by decide), sc _ 3 _ _ _ (by decide), sc _ 2 _ _ _ (by decide), sc _ 5 _ _ _ (by decide), sc _ 4 _ _ _ (by decide), sc _ 3 _ _ _ (by decide), sc _ 2 _ _ _ (by decide), sc _ 5 _ _ _ (by decide), sc _ 4 _ _ _ (by decide), sc _ 3 _ _ _ (by decide), sc _ 2 _ _ _ (by decide), sc _ 5 _ _ _ (by decide), sc _ 4 _ _ _ (by decide), sc _ 3 _ _ _ (by decide), sc _ 2 _ _ _ (by decide), sc _ 5 _ _ _ (by decide), sc _ 4 _ _ _ (by decide), sc _ 3 _ _ _ (by decide), sc _ 2 _ _ _ (by decide)]
            exact hs
          · intro w hw
            rw [kc_wr (fun q => by omega), kc_wr (fun q => by omega), kc_wr (fun q => by omega)]
            by_cases e : w = i
            · subst e
              rw [kc_ws]
              exact a1.k hic
            · rw [kc_wr (fun q => e q.2)]
              exact h2 w (by omega)
          · intro w hw
            rw [kc_wr (fun q => by omega), kc_wr (fun q => by omega)]
            by_cases e : w = i
            · subst e
              rw [kc_ws]
              exact a1.n hic
            · rw [kc_wr (fun q => e q.2), kc_wr (fun q => by omega)]
              exact h3 w (by omega)
          · intro w hw
            rw [kc_wr (fun q => by omega)]
            by_cases e : w = i
            · subst e
              rw [kc_ws]
              exact a1.s hic
            · rw [kc_wr (fun q => e q.2), kc_wr (fun q => by omega), kc_wr (fun q => by omega)]
              exact h4 w (by omega)
          · intro w hw
            by_cases e : w = i
            · subst e
              rw [kc_ws]
              exact a1.u hic
            · rw [kc_wr (fun q => e q.2), kc_wr (fun q => by omega), kc_wr (fun q => by omega), kc_wr (fun q => by omega)]
              exact h5 w (by omega)
  refine ke_H_become ?_
  refine ks_H_become_0 <| ks_H_become_1 <| ks_H_become_2 (by first | rfl | assumption) <| ks_H_become_5 (by first | rfl | assumption) <| ks_H_become_8 <| ks_H_become_9 <| ks_H_become_10 (by first | rfl | assumption) <| ks_H_become_13 (by first | rfl | assumption) <| ks_H_become_16 <| ks_H_become_17 <| ks_H_become_18 (by first | rfl | assumption) <| ks_H_become_21 (by first | rfl | assumption) <| ks_H_become_24 <| ks_H_become_25 <| ks_H_become_26 (by first | rfl | assumption) <| ks_H_become_29 (by first | rfl | assumption) <| ks_H_become_32 <| ks_H_become_33 <| ks_H_become_34 (by first | rfl | assumption) <| ks_H_become_37 (by first | rfl | assumption) <| ks_H_become_40 <| ks_H_become_41 <| ks_H_become_42 (by first | rfl | assumption) <| ks_H_become_45 (by first | rfl | assumption) <| ks_H_become_48 <| ks_H_become_49 <| ks_H_become_50 (by first | rfl | assumption) <| ks_H_become_53 (by first | rfl | assumption) <| ks_H_become_56 <| ks_H_become_57 rfl ?_
  simp only [ot]
  rw [ha.T, ha.H, ha.W, ha.B, ha.E, ha.m, ha.c]
  refine loop (kh_c v) 0 _ (by omega) ?_ ?_ ?_ (fun w hw => absurd hw (by omega)) (fun w hw => absurd hw (by omega)) (fun w hw => absurd hw (by omega)) (fun w hw => absurd hw (by omega))
  · refine ⟨?_, ?_, ?_, ?_, ?_, ?_, ?_, fun w hw => ?_, fun w hw => ?_, fun w hw => ?_, fun w hw => ?_⟩ <;> simp only [ot]
    · exact ha.T
    · exact ha.H
    · exact ha.W
    · exact ha.B
    · exact ha.E
    · exact ha.m
    · exact ha.c
    · exact ha.k hw
    · exact ha.n hw
    · exact ha.s hw
    · exact ha.u hw
  · have h1 := hP 1 (by decide) (by decide)
    exact ((((((kq_fr.rf.wI h1).wI h1).wI h1).wI h1).wI h1).wI h1).wI h1
  · refine ⟨?_, ?_, ?_, ?_, ?_, ?_, ?_⟩ <;> simp [kq_rI_wI]
end KT4
