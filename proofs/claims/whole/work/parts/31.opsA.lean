/-! WHAT EACH CALL DOES (1): facts, the kettle, witnesses, minutes, now; and that the class does so -/
def sp_truth (z : kz_S) (x : Int32) : Int32 × kz_S := if 0 ≤ x ∧ x ≤ 255 then (kh_T (kz_h z), kz_seth z (kh_setT (kz_h z) x)) else kz_F z 0
def sp_kettle (z : kz_S) (a x : Int32) : Int32 × kz_S :=
  if a = 0 ∧ 0 ≤ x ∧ x ≤ 99 then (kh_H (kz_h z), kz_seth z (kh_setH (kz_h z) x))
  else if a = 1 ∧ 0 ≤ x ∧ x ≤ 99 then (kh_W (kz_h z), kz_seth z (kh_setW (kz_h z) x))
  else if a = 2 ∧ 1 ≤ x ∧ x ≤ 99 then (kh_B (kz_h z), kz_seth z (kh_setB (kz_h z) x)) else kz_F z 0
def sp_witness (z : kz_S) (x : Int32) : Int32 × kz_S := if ¬ (0 ≤ x ∧ x < 6) then kz_F z 0 else if kh_c (kz_h z) = 8 then kz_F z 1 else (nI (kh_c (kz_h z)), kz_seth z (kh_add (kz_h z) x 0 0 3))
def sp_of (z : kz_S) (w a : Int32) : Int32 × kz_S :=
  if kh_wi (kz_h z) w = false then kz_F z 0
  else if a = 0 then (kh_k (kz_h z) (kh_nat w), z) else if a = 1 then (kh_n (kz_h z) (kh_nat w), z) else if a = 2 then (kh_s (kz_h z) (kh_nat w), z) else if a = 3 then (kh_u (kz_h z) (kh_nat w), z)
  else if a = 4 then (kh_lie (kz_h z) (kh_nat w), z) else if a = 5 then (kh_luck (kz_h z) (kh_nat w), z) else if a = 6 then (kh_wrong (kz_h z) (kh_nat w), z) else if a = 7 then (kh_doubt (kh_k (kz_h z) (kh_nat w)), z)
  else kz_F z 0
def sp_set (z : kz_S) (w a x : Int32) : Int32 × kz_S :=
  if kh_wi (kz_h z) w = false then kz_F z 0
  else if a = 1 ∧ 0 ≤ x ∧ x ≤ 255 then (kh_n (kz_h z) (kh_nat w), kz_seth z (kh_setn (kz_h z) (kh_nat w) x))
  else if a = 2 ∧ 0 ≤ x ∧ x ≤ 255 then (kh_s (kz_h z) (kh_nat w), kz_seth z (kh_sets (kz_h z) (kh_nat w) x))
  else if a = 3 ∧ 0 ≤ x ∧ x ≤ 9 then (kh_u (kz_h z) (kh_nat w), kz_seth z (kh_setu (kz_h z) (kh_nat w) x)) else kz_F z 0
def sp_turn (z : kz_S) (w x : Int32) : Int32 × kz_S := if kh_wi (kz_h z) w = false ∨ ¬ (0 ≤ x ∧ x < 6) then kz_F z 0 else (kh_k (kz_h z) (kh_nat w), kz_seth z (kh_setk (kz_h z) (kh_nat w) x))
def sp_as (z : kz_S) (w x : Int32) : Int32 × kz_S := if kh_wi (kz_h z) w = false ∨ ¬ (0 ≤ x ∧ x < 6) then kz_F z 0 else if kh_under (kh_k (kz_h z) (kh_nat w)) x = false then kz_F z 2 else (kh_u (kz_h z) (kh_nat w), z)
def sp_heats (z : kz_S) (w f : Int32) : Int32 × kz_S := if kh_wi (kz_h z) w = false ∨ ¬ (0 ≤ f ∧ f < 8) then kz_F z 0 else (100 + kh_heat (kz_h z) (kh_nat w) (kh_nat f), z)
def sp_ask (z : kz_S) (w f : Int32) : Int32 × kz_S := if kh_wi (kz_h z) w = false ∨ ¬ (0 ≤ f ∧ f < 8) then kz_F z 0 else (kq_b (kh_boil (kz_h z) (kh_nat w) (kh_nat f)), kz_seth z (kh_ans (kz_h z) (kh_nat w) (kh_nat f)))
def sp_swap (z : kz_S) (w o : Int32) : Int32 × kz_S := if kh_wi (kz_h z) w = false ∨ kh_wi (kz_h z) o = false ∨ w = o then kz_F z 0 else (1, kz_seth z (kh_swap (kz_h z) (kh_nat w) (kh_nat o)))
def sp_minutes (z : kz_S) (n : Int32) : Int32 × kz_S := if ¬ (1 ≤ n ∧ n ≤ 100) then kz_F z 0 else if 99999 < kh_m (kz_h z) + kh_nat n then kz_F z 4 else (kh_E (kh_pass (kh_nat n) (kz_h z)), kz_seth z (kh_pass (kh_nat n) (kz_h z)))
def sp_now (z : kz_S) (a : Int32) : Int32 × kz_S :=
  if a = 0 then (nI (kh_m (kz_h z)), z) else if a = 1 then (kh_H (kz_h z), z) else if a = 2 then (kh_W (kz_h z), z) else if a = 3 then (kh_E (kz_h z), z) else if a = 4 then (kh_B (kz_h z), z)
  else if a = 5 then (if kh_c (kz_h z) = 0 then -1 else nI (kh_who (kz_h z)), z) else if a = 6 then (if kh_c (kz_h z) = 0 then 0 else nI (kh_ask (kz_h z)), z) else if a = 7 then (kh_T (kz_h z), z) else kz_F z 0
theorem kf8 {f : Int32} (h : 0 ≤ f ∧ f < 8) : ∃ j : Nat, j < 8 ∧ f = nI j := kh_ix (by decide) h
theorem kn_of_le {x : Int32} {lo : Int32} {c : Nat} (hc : c < 2 ^ 31) (hl : 0 ≤ lo.toInt) (h : lo ≤ x ∧ x ≤ nI c) : ∃ j : Nat, (lo.toInt ≤ j ∧ j ≤ c) ∧ x = nI j := by
  rw [ki_le, ki_le, nI_toInt hc] at h
  obtain ⟨j, hj, rfl⟩ := nI_of (x := x) (by rw [ki_lt, ki_0]; omega)
  rw [nI_toInt hj] at h
  exact ⟨j, by omega, rfl⟩
section KO1
variable {z : kz_S} {w a x : Int32}
theorem ko_K_truth : kK_ct km_K_truth [kq_I x] z (sp_truth z x).2 (kq_I (sp_truth z x).1) := by
  intro μ Q ha k
  refine ke_K_truth ?_
  refine ks_K_truth_0 <| ks_K_truth_1 <| ks_K_truth_2 <| ks_K_truth_5 (Nat.le_of_ble_eq_true rfl) ?_
  refine kt_K_isWithin ?_
  refine ks_K_truth_8 (fun h8 => ?_) (fun h8 => ?_)
  · have h := of_decide_eq_true (kq_b_t h8)
    refine ks_K_truth_17 <| ks_K_truth_18 <| ks_K_truth_21 (by first | rfl | assumption) <| ks_K_truth_24 rfl <| ks_K_truth_25 <| ks_K_truth_26 <| ks_K_truth_29 <| ks_K_truth_30 (by first | rfl | assumption) <| ks_K_truth_33 <| ks_K_truth_34 ?_
    rw [show sp_truth z x = _ from if_pos h] at k
    rw [ha.h.T]
    exact k _ (ha.hall ha.h.wT (kK_fr1 (kq_fr.rf.wI ⟨rfl, by decide, by decide⟩))) (kq_fr.rf.wI (show (1 : Nat) ≤ 11 by decide))
  · have h := of_decide_eq_false (kq_b_f h8)
    rw [show sp_truth z x = _ from if_neg h] at k
    refine ks_K_truth_11 <| ks_K_truth_12 <| ks_K_truth_13 (Nat.le_of_ble_eq_true rfl) ?_
    refine kt_K_fin 0 ha (by decide) (fun μ' a1 f1 => ?_)
    refine ks_K_truth_16 ?_
    exact k μ' a1 f1
theorem kt_K_isKettleValue {d : Nat} {μ : kq_M} {Q : Option kq_V → kq_M → Prop} (k : Q (some (kq_I (kq_b (decide ((a = 0 ∧ 0 ≤ x ∧ x ≤ 99) ∨ (a = 1 ∧ 0 ≤ x ∧ x ≤ 99) ∨ (a = 2 ∧ 1 ≤ x ∧ x ≤ 99)))))) μ) : kq_Call (d + 1) km_K_isKettleValue [kq_I a, kq_I x] μ Q := by
  refine ke_K_isKettleValue ?_
  refine ks_K_isKettleValue_0 <| ks_K_isKettleValue_1 (fun h1 => ?_) (fun h1 => ?_) (fun h1 => ?_) (fun h1 => ?_)
  · refine ks_K_isKettleValue_28 <| ks_K_isKettleValue_29 <| ks_K_isKettleValue_30 <| ks_K_isKettleValue_32 (Nat.le_of_ble_eq_true rfl) ?_
    refine kt_K_isWithin ?_
    refine ks_K_isKettleValue_35 (by first | exact kq_b01' _ | exact Or.inl rfl | exact Or.inr rfl | assumption) ?_
    rw [show decide ((0 : Int32) ≤ x ∧ x ≤ 99) = decide ((a = 0 ∧ 0 ≤ x ∧ x ≤ 99) ∨ (a = 1 ∧ 0 ≤ x ∧ x ≤ 99) ∨ (a = 2 ∧ 1 ≤ x ∧ x ≤ 99)) by rw [h1]; simp]
    exact k
  · refine ks_K_isKettleValue_36 <| ks_K_isKettleValue_37 <| ks_K_isKettleValue_38 <| ks_K_isKettleValue_40 (Nat.le_of_ble_eq_true rfl) ?_
    refine kt_K_isWithin ?_
    refine ks_K_isKettleValue_43 (by first | exact kq_b01' _ | exact Or.inl rfl | exact Or.inr rfl | assumption) ?_
    rw [show decide ((0 : Int32) ≤ x ∧ x ≤ 99) = decide ((a = 0 ∧ 0 ≤ x ∧ x ≤ 99) ∨ (a = 1 ∧ 0 ≤ x ∧ x ≤ 99) ∨ (a = 2 ∧ 1 ≤ x ∧ x ≤ 99)) by rw [h1]; simp]
    exact k
  · refine ks_K_isKettleValue_44 <| ks_K_isKettleValue_45 <| ks_K_isKettleValue_46 <| ks_K_isKettleValue_48 (Nat.le_of_ble_eq_true rfl) ?_
    refine kt_K_isWithin ?_
    refine ks_K_isKettleValue_51 (by first | exact kq_b01' _ | exact Or.inl rfl | exact Or.inr rfl | assumption) ?_
    rw [show decide ((1 : Int32) ≤ x ∧ x ≤ 99) = decide ((a = 0 ∧ 0 ≤ x ∧ x ≤ 99) ∨ (a = 1 ∧ 0 ≤ x ∧ x ≤ 99) ∨ (a = 2 ∧ 1 ≤ x ∧ x ≤ 99)) by rw [h1]; simp]
    exact k
  · refine ks_K_isKettleValue_52 <| ks_K_isKettleValue_53 ?_
    rw [decide_eq_false (fun q => by
      rcases q with q | q | q
      · rw [q.1] at h1; revert h1; decide
      · rw [q.1] at h1; revert h1; decide
      · rw [q.1] at h1; revert h1; decide)] at k
    exact k
theorem ko_K_kettle : kK_ct km_K_kettle [kq_I a, kq_I x] z (sp_kettle z a x).2 (kq_I (sp_kettle z a x).1) := by
  intro μ Q ha k
  refine ke_K_kettle ?_
  refine ks_K_kettle_0 <| ks_K_kettle_1 <| ks_K_kettle_2 (Nat.le_of_ble_eq_true rfl) ?_
  refine kt_K_isKettleValue ?_
  refine ks_K_kettle_5 (fun h5 => ?_) (fun h5 => ?_)
  · have h := of_decide_eq_true (kq_b_t h5)
    have fr1 : ∀ j y, kq_fr (kc_P 1) μ (kq_wI μ 1 1 j y) := fun j y => kq_fr.rf.wI ⟨rfl, by decide, by decide⟩
    refine ks_K_kettle_14 <| ks_K_kettle_15 (fun h15 => ?_) (fun h15 => ?_)
    · refine ks_K_kettle_37 <| ks_K_kettle_38 <| ks_K_kettle_39 (fun h39 => ?_) (fun h39 => ?_)
      · refine ks_K_kettle_61 <| ks_K_kettle_62 <| ks_K_kettle_65 (by first | rfl | assumption) <| ks_K_kettle_68 rfl <| ks_K_kettle_69 <| ks_K_kettle_70 <| ks_K_kettle_73 <| ks_K_kettle_74 (by first | rfl | assumption) <| ks_K_kettle_77 <| ks_K_kettle_78 ?_
        have e : a = 2 ∧ 1 ≤ x ∧ x ≤ 99 := by
          rcases h with q | q | q
          · exact absurd q.1 h15
          · exact absurd q.1 h39
          · exact q
        rw [show sp_kettle z a x = _ from (if_neg (fun q => h15 q.1)).trans ((if_neg (fun q => h39 q.1)).trans (if_pos e))] at k
        rw [ha.h.B]
        exact k _ (ha.hall ha.h.wB (kK_fr1 (fr1 _ _))) (kK_frP (kK_fr1 (fr1 _ _)))
      · refine ks_K_kettle_42 <| ks_K_kettle_43 <| ks_K_kettle_46 (by first | rfl | assumption) <| ks_K_kettle_49 rfl <| ks_K_kettle_50 <| ks_K_kettle_51 <| ks_K_kettle_54 <| ks_K_kettle_55 (by first | rfl | assumption) <| ks_K_kettle_58 <| ks_K_kettle_77 <| ks_K_kettle_78 ?_
        have e : a = 1 ∧ 0 ≤ x ∧ x ≤ 99 := by
          rcases h with q | q | q
          · exact absurd q.1 h15
          · exact q
          · rw [h39] at q; exact absurd q.1 (by decide)
        rw [show sp_kettle z a x = _ from (if_neg (fun q => h15 q.1)).trans (if_pos e)] at k
        rw [ha.h.W]
        exact k _ (ha.hall ha.h.wW (kK_fr1 (fr1 _ _))) (kK_frP (kK_fr1 (fr1 _ _)))
    · refine ks_K_kettle_18 <| ks_K_kettle_19 <| ks_K_kettle_22 (by first | rfl | assumption) <| ks_K_kettle_25 rfl <| ks_K_kettle_26 <| ks_K_kettle_27 <| ks_K_kettle_30 <| ks_K_kettle_31 (by first | rfl | assumption) <| ks_K_kettle_34 <| ks_K_kettle_77 <| ks_K_kettle_78 ?_
      have e : a = 0 ∧ 0 ≤ x ∧ x ≤ 99 := by
        rcases h with q | q | q
        · exact q
        · rw [h15] at q; exact absurd q.1 (by decide)
        · rw [h15] at q; exact absurd q.1 (by decide)
      rw [show sp_kettle z a x = _ from if_pos e] at k
      rw [ha.h.H]
      exact k _ (ha.hall ha.h.wH (kK_fr1 (fr1 _ _))) (kK_frP (kK_fr1 (fr1 _ _)))
  · have h := of_decide_eq_false (kq_b_f h5)
    rw [show sp_kettle z a x = _ from (if_neg (fun q => h (Or.inl q))).trans ((if_neg (fun q => h (Or.inr (Or.inl q)))).trans (if_neg (fun q => h (Or.inr (Or.inr q)))))] at k
    refine ks_K_kettle_8 <| ks_K_kettle_9 <| ks_K_kettle_10 (Nat.le_of_ble_eq_true rfl) ?_
    refine kt_K_fin 0 ha (by decide) (fun μ' a1 f1 => ?_)
    refine ks_K_kettle_13 ?_
    exact k μ' a1 f1
theorem ko_K_witness (hz : kz_ok z) : kK_ct km_K_witness [kq_I x] z (sp_witness z x).2 (kq_I (sp_witness z x).1) := by
  intro μ Q ha k
  have hv := hz.1.1
  have hc8 := hv.1
  refine ke_K_witness ?_
  refine ks_K_witness_0 <| ks_K_witness_1 (Nat.le_of_ble_eq_true rfl) ?_
  refine kt_K_isKind ?_
  refine ks_K_witness_4 (fun h4 => ?_) (fun h4 => ?_)
  · have h := of_decide_eq_true (kq_b_t h4)
    refine ks_K_witness_13 <| ks_K_witness_14 <| ks_K_witness_17 (by first | rfl | assumption) <| ks_K_witness_20 <| ks_K_witness_22 (fun h22 => ?_) (fun h22 => ?_)
    · rw [ha.h.c] at h22
      have hc : kh_c (kz_h z) < 8 := by
        rw [ki_lt, ki_8, nI_toInt (by omega)] at h22
        omega
      rw [show sp_witness z x = _ from (if_neg (fun q => q h)).trans (if_neg (by omega))] at k
      refine ks_K_witness_31 <| ks_K_witness_32 <| ks_K_witness_35 <| ks_K_witness_36 (by first | rfl | assumption) (Nat.le_of_ble_eq_true rfl) ?_
      refine kt_H_callWitness rfl ha.h hv hc (fun μ' a1 f1 => ?_)
      refine ks_K_witness_39 ?_
      exact k _ (ha.hall a1 (kK_fr1 f1)) (kK_frP (kK_fr1 f1))
    · rw [ha.h.c] at h22
      have hc : kh_c (kz_h z) = 8 := by
        rw [ki_lt, ki_8, nI_toInt (by omega)] at h22
        omega
      rw [show sp_witness z x = _ from (if_neg (fun q => q h)).trans (if_pos hc)] at k
      refine ks_K_witness_25 <| ks_K_witness_26 <| ks_K_witness_27 (Nat.le_of_ble_eq_true rfl) ?_
      refine kt_K_fin 1 ha (by decide) (fun μ' a1 f1 => ?_)
      refine ks_K_witness_30 ?_
      exact k μ' a1 f1
  · have h := of_decide_eq_false (kq_b_f h4)
    rw [show sp_witness z x = _ from if_pos h] at k
    refine ks_K_witness_7 <| ks_K_witness_8 <| ks_K_witness_9 (Nat.le_of_ble_eq_true rfl) ?_
    refine kt_K_fin 0 ha (by decide) (fun μ' a1 f1 => ?_)
    refine ks_K_witness_12 ?_
    exact k μ' a1 f1
theorem ko_K_of (hz : kz_ok z) : kK_ct km_K_of [kq_I w, kq_I a] z (sp_of z w a).2 (kq_I (sp_of z w a).1) := by
  intro μ Q ha k
  have hv := hz.1.1
  have fin : (sp_of z w a = kz_F z 0) → kq_S km_K_of 11 136 [some (kq_R 0 0), some (kq_I w), some (kq_I a)] [] μ Q := by
    intro e
    rw [e] at k
    refine ks_K_of_136 <| ks_K_of_137 <| ks_K_of_138 (Nat.le_of_ble_eq_true rfl) ?_
    refine kt_K_fin 0 ha (by decide) (fun μ' a1 f1 => ?_)
    refine ks_K_of_141 ?_
    exact k μ' a1 f1
  refine ke_K_of ?_
  refine ks_K_of_0 <| ks_K_of_1 <| ks_K_of_2 (Nat.le_of_ble_eq_true rfl) ?_
  refine kt_K_isWitness ha hv ?_
  refine ks_K_of_5 (fun h5 => ?_) (fun h5 => ?_)
  · have hw := kq_b_t h5
    obtain ⟨j, hj, rfl⟩ := kh_wi_ix hv hw
    have hj8 : j < 8 := Nat.lt_of_lt_of_le hj hv.1
    have hne : ¬ kh_wi (kz_h z) (nI j) = false := by rw [hw]; decide
    have e0 : sp_of z (nI j) a = _ := if_neg hne
    rw [kh_nat_nI (by omega)] at e0
    rw [e0] at k fin
    refine ks_K_of_14 <| ks_K_of_15 (fun h15 => ?_) (fun h15 => ?_) (fun h15 => ?_) (fun h15 => ?_) (fun h15 => ?_) (fun h15 => ?_) (fun h15 => ?_) (fun h15 => ?_) (fun h15 => ?_)
    · refine ks_K_of_60 <| ks_K_of_61 <| ks_K_of_64 (by first | rfl | assumption) <| ks_K_of_67 <| ks_K_of_68n (by first | rfl | assumption) (by omega) <| ks_K_of_69 ?_
      subst h15
      rw [if_pos rfl] at k
      rw [ha.h.k hj]
      exact k _ ha kq_fr.rf
    · refine ks_K_of_70 <| ks_K_of_71 <| ks_K_of_74 (by first | rfl | assumption) <| ks_K_of_77 <| ks_K_of_78n (by first | rfl | assumption) (by omega) <| ks_K_of_79 ?_
      subst h15
      rw [if_neg (by decide), if_pos rfl] at k
      rw [ha.h.n hj]
      exact k _ ha kq_fr.rf
    · refine ks_K_of_80 <| ks_K_of_81 <| ks_K_of_84 (by first | rfl | assumption) <| ks_K_of_87 <| ks_K_of_88n (by first | rfl | assumption) (by omega) <| ks_K_of_89 ?_
      subst h15
      rw [if_neg (by decide), if_neg (by decide), if_pos rfl] at k
      rw [ha.h.s hj]
      exact k _ ha kq_fr.rf
    · refine ks_K_of_90 <| ks_K_of_91 <| ks_K_of_94 (by first | rfl | assumption) <| ks_K_of_97 <| ks_K_of_98n (by first | rfl | assumption) (by omega) <| ks_K_of_99 ?_
      subst h15
      rw [if_neg (by decide), if_neg (by decide), if_neg (by decide), if_pos rfl] at k
      rw [ha.h.u hj]
      exact k _ ha kq_fr.rf
    · refine ks_K_of_100 <| ks_K_of_101 <| ks_K_of_104 <| ks_K_of_105 (by first | rfl | assumption) (Nat.le_of_ble_eq_true rfl) ?_
      refine kt_H_lieSet rfl ha.h hv hj ?_
      refine ks_K_of_108 ?_
      subst h15
      rw [if_neg (by decide), if_neg (by decide), if_neg (by decide), if_neg (by decide), if_pos rfl] at k
      exact k _ ha kq_fr.rf
    · refine ks_K_of_109 <| ks_K_of_110 <| ks_K_of_113 <| ks_K_of_114 (by first | rfl | assumption) (Nat.le_of_ble_eq_true rfl) ?_
      refine kt_H_luckySet rfl ha.h hv hj ?_
      refine ks_K_of_117 ?_
      subst h15
      rw [if_neg (by decide), if_neg (by decide), if_neg (by decide), if_neg (by decide), if_neg (by decide), if_pos rfl] at k
      exact k _ ha kq_fr.rf
    · refine ks_K_of_118 <| ks_K_of_119 <| ks_K_of_122 <| ks_K_of_123 (by first | rfl | assumption) (Nat.le_of_ble_eq_true rfl) ?_
      refine kt_H_wrongSet rfl ha.h hv hj ?_
      refine ks_K_of_126 ?_
      subst h15
      rw [if_neg (by decide), if_neg (by decide), if_neg (by decide), if_neg (by decide), if_neg (by decide), if_neg (by decide), if_pos rfl] at k
      exact k _ ha kq_fr.rf
    · refine ks_K_of_127 <| ks_K_of_128 <| ks_K_of_131 <| ks_K_of_132 (by first | rfl | assumption) (Nat.le_of_ble_eq_true rfl) ?_
      refine kt_H_doubtOf rfl ha.h hv hj ?_
      refine ks_K_of_135 ?_
      subst h15
      rw [if_neg (by decide), if_neg (by decide), if_neg (by decide), if_neg (by decide), if_neg (by decide), if_neg (by decide), if_neg (by decide), if_pos rfl] at k
      exact k _ ha kq_fr.rf
    · refine fin ?_
      have n : ∀ y : Int32, 0 ≤ y.toInt → y.toInt ≤ 7 → ¬ a = y := fun y h1 h2 q => by rw [q] at h15; omega
      rw [if_neg (n 0 (by decide) (by decide)), if_neg (n 1 (by decide) (by decide)), if_neg (n 2 (by decide) (by decide)), if_neg (n 3 (by decide) (by decide)), if_neg (n 4 (by decide) (by decide)), if_neg (n 5 (by decide) (by decide)), if_neg (n 6 (by decide) (by decide)), if_neg (n 7 (by decide) (by decide))]
  · have hw := kq_b_f h5
    rw [show sp_of z w a = _ from if_pos hw] at k
    refine ks_K_of_8 <| ks_K_of_9 <| ks_K_of_10 (Nat.le_of_ble_eq_true rfl) ?_
    refine kt_K_fin 0 ha (by decide) (fun μ' a1 f1 => ?_)
    refine ks_K_of_13 ?_
    exact k μ' a1 f1
theorem ko_K_turn (hz : kz_ok z) : kK_ct km_K_turn [kq_I w, kq_I x] z (sp_turn z w x).2 (kq_I (sp_turn z w x).1) := by
  intro μ Q ha k
  have hv := hz.1.1
  have fin : (sp_turn z w x = kz_F z 0) → kq_S km_K_turn 11 15 [some (kq_R 0 0), some (kq_I w), some (kq_I x), none] [] μ Q := by
    intro e
    rw [e] at k
    refine ks_K_turn_15 <| ks_K_turn_16 <| ks_K_turn_17 (Nat.le_of_ble_eq_true rfl) ?_
    refine kt_K_fin 0 ha (by decide) (fun μ' a1 f1 => ?_)
    refine ks_K_turn_20 ?_
    exact k μ' a1 f1
  refine ke_K_turn ?_
  refine ks_K_turn_0 <| ks_K_turn_1 <| ks_K_turn_2 (Nat.le_of_ble_eq_true rfl) ?_
  refine kt_K_isWitness ha hv ?_
  refine ks_K_turn_5 (fun h5 => ?_) (fun h5 => ?_)
  · exact fin (if_pos (Or.inl (kq_b_f h5)))
  · have hw := kq_b_t h5
    refine ks_K_turn_8 <| ks_K_turn_9 (Nat.le_of_ble_eq_true rfl) ?_
    refine kt_K_isKind ?_
    refine ks_K_turn_12 (fun h12 => ?_) (fun h12 => ?_)
    · have h := of_decide_eq_true (kq_b_t h12)
      obtain ⟨j, hj, rfl⟩ := kh_wi_ix hv hw
      have hj8 : j < 8 := Nat.lt_of_lt_of_le hj hv.1
      have e0 : sp_turn z (nI j) x = _ := if_neg (fun q => by rcases q with q | q; rw [hw] at q; cases q; exact q h)
      rw [kh_nat_nI (by omega)] at e0
      rw [e0] at k
      refine ks_K_turn_21 <| ks_K_turn_22 <| ks_K_turn_25 (by first | rfl | assumption) <| ks_K_turn_28 <| ks_K_turn_29n (by first | rfl | assumption) (by omega) <| ks_K_turn_30 rfl <| ks_K_turn_31 <| ks_K_turn_32 <| ks_K_turn_35 (by first | rfl | assumption) <| ks_K_turn_38 <| ks_K_turn_39 <| ks_K_turn_40n (by first | rfl | assumption) (by omega) <| ks_K_turn_41 <| ks_K_turn_42 ?_
      rw [ha.h.k hj]
      have f1 : kq_fr (kc_P 1) μ (kq_wI μ 1 2 j x) := kq_fr.rf.wI ⟨rfl, by decide, by decide⟩
      exact k _ (ha.hall ha.h.wk (kK_fr1 f1)) (kK_frP (kK_fr1 f1))
    · exact fin (if_pos (Or.inr (of_decide_eq_false (kq_b_f h12))))
theorem ko_K_as (hz : kz_ok z) : kK_ct km_K_as [kq_I w, kq_I x] z (sp_as z w x).2 (kq_I (sp_as z w x).1) := by
  intro μ Q ha k
  have hv := hz.1.1
  have fin : (sp_as z w x = kz_F z 0) → kq_S km_K_as 11 15 [some (kq_R 0 0), some (kq_I w), some (kq_I x)] [] μ Q := by
    intro e
    rw [e] at k
    refine ks_K_as_15 <| ks_K_as_16 <| ks_K_as_17 (Nat.le_of_ble_eq_true rfl) ?_
    refine kt_K_fin 0 ha (by decide) (fun μ' a1 f1 => ?_)
    refine ks_K_as_20 ?_
    exact k μ' a1 f1
  refine ke_K_as ?_
  refine ks_K_as_0 <| ks_K_as_1 <| ks_K_as_2 (Nat.le_of_ble_eq_true rfl) ?_
  refine kt_K_isWitness ha hv ?_
  refine ks_K_as_5 (fun h5 => ?_) (fun h5 => ?_)
  · exact fin (if_pos (Or.inl (kq_b_f h5)))
  · have hw := kq_b_t h5
    refine ks_K_as_8 <| ks_K_as_9 (Nat.le_of_ble_eq_true rfl) ?_
    refine kt_K_isKind ?_
    refine ks_K_as_12 (fun h12 => ?_) (fun h12 => ?_)
    · have h := of_decide_eq_true (kq_b_t h12)
      obtain ⟨j, hj, rfl⟩ := kh_wi_ix hv hw
      have hj8 : j < 8 := Nat.lt_of_lt_of_le hj hv.1
      have e0 : sp_as z (nI j) x = _ := if_neg (fun q => by rcases q with q | q; rw [hw] at q; cases q; exact q h)
      rw [kh_nat_nI (by omega)] at e0
      rw [e0] at k
      refine ks_K_as_21 <| ks_K_as_22 <| ks_K_as_25 (by first | rfl | assumption) <| ks_K_as_28 <| ks_K_as_29n (by first | rfl | assumption) (by omega) <| ks_K_as_30 <| ks_K_as_31 (Nat.le_of_ble_eq_true rfl) ?_
      rw [ha.h.k hj]
      refine kt_K_isOfKind ?_
      refine ks_K_as_34 (fun h34 => ?_) (fun h34 => ?_)
      · have hu := kq_b_t h34
        rw [if_neg (by rw [hu]; decide)] at k
        refine ks_K_as_43 <| ks_K_as_44 <| ks_K_as_47 (by first | rfl | assumption) <| ks_K_as_50 <| ks_K_as_51n (by first | rfl | assumption) (by omega) <| ks_K_as_52 ?_
        rw [ha.h.u hj]
        exact k _ ha kq_fr.rf
      · have hu := kq_b_f h34
        rw [if_pos hu] at k
        refine ks_K_as_37 <| ks_K_as_38 <| ks_K_as_39 (Nat.le_of_ble_eq_true rfl) ?_
        refine kt_K_fin 2 ha (by decide) (fun μ' a1 f1 => ?_)
        refine ks_K_as_42 ?_
        exact k μ' a1 f1
    · exact fin (if_pos (Or.inr (of_decide_eq_false (kq_b_f h12))))
theorem ko_K_heats (hz : kz_ok z) : kK_ct km_K_heats [kq_I w, kq_I x] z (sp_heats z w x).2 (kq_I (sp_heats z w x).1) := by
  intro μ Q ha k
  have hv := hz.1.1
  have fin : (sp_heats z w x = kz_F z 0) → kq_S km_K_heats 11 15 [some (kq_R 0 0), some (kq_I w), some (kq_I x)] [] μ Q := by
    intro e
    rw [e] at k
    refine ks_K_heats_15 <| ks_K_heats_16 <| ks_K_heats_17 (Nat.le_of_ble_eq_true rfl) ?_
    refine kt_K_fin 0 ha (by decide) (fun μ' a1 f1 => ?_)
    refine ks_K_heats_20 ?_
    exact k μ' a1 f1
  refine ke_K_heats ?_
  refine ks_K_heats_0 <| ks_K_heats_1 <| ks_K_heats_2 (Nat.le_of_ble_eq_true rfl) ?_
  refine kt_K_isWitness ha hv ?_
  refine ks_K_heats_5 (fun h5 => ?_) (fun h5 => ?_)
  · exact fin (if_pos (Or.inl (kq_b_f h5)))
  · have hw := kq_b_t h5
    refine ks_K_heats_8 <| ks_K_heats_9 (Nat.le_of_ble_eq_true rfl) ?_
    refine kt_K_isFact ?_
    refine ks_K_heats_12 (fun h12 => ?_) (fun h12 => ?_)
    · have h := of_decide_eq_true (kq_b_t h12)
      obtain ⟨j, hj, rfl⟩ := kh_wi_ix hv hw
      have hj8 : j < 8 := Nat.lt_of_lt_of_le hj hv.1
      have e0 : sp_heats z (nI j) x = _ := if_neg (fun q => by rcases q with q | q; rw [hw] at q; cases q; exact q h)
      obtain ⟨i, hi, rfl⟩ := kf8 h
      rw [kh_nat_nI (by omega), kh_nat_nI (by omega)] at e0
      rw [e0] at k
      refine ks_K_heats_21 <| ks_K_heats_23 <| ks_K_heats_24 <| ks_K_heats_27 <| ks_K_heats_28 <| ks_K_heats_29 (by first | rfl | assumption) (Nat.le_of_ble_eq_true rfl) ?_
      refine kt_H_heatBy rfl ha.h hv hj hi ?_
      refine ks_K_heats_32 <| ks_K_heats_33 ?_
      exact k _ ha kq_fr.rf
    · exact fin (if_pos (Or.inr (of_decide_eq_false (kq_b_f h12))))
theorem ko_K_ask (hz : kz_ok z) : kK_ct km_K_ask [kq_I w, kq_I x] z (sp_ask z w x).2 (kq_I (sp_ask z w x).1) := by
  intro μ Q ha k
  have hv := hz.1.1
  have fin : (sp_ask z w x = kz_F z 0) → kq_S km_K_ask 11 15 [some (kq_R 0 0), some (kq_I w), some (kq_I x)] [] μ Q := by
    intro e
    rw [e] at k
    refine ks_K_ask_15 <| ks_K_ask_16 <| ks_K_ask_17 (Nat.le_of_ble_eq_true rfl) ?_
    refine kt_K_fin 0 ha (by decide) (fun μ' a1 f1 => ?_)
    refine ks_K_ask_20 ?_
    exact k μ' a1 f1
  refine ke_K_ask ?_
  refine ks_K_ask_0 <| ks_K_ask_1 <| ks_K_ask_2 (Nat.le_of_ble_eq_true rfl) ?_
  refine kt_K_isWitness ha hv ?_
  refine ks_K_ask_5 (fun h5 => ?_) (fun h5 => ?_)
  · exact fin (if_pos (Or.inl (kq_b_f h5)))
  · have hw := kq_b_t h5
    refine ks_K_ask_8 <| ks_K_ask_9 (Nat.le_of_ble_eq_true rfl) ?_
    refine kt_K_isFact ?_
    refine ks_K_ask_12 (fun h12 => ?_) (fun h12 => ?_)
    · have h := of_decide_eq_true (kq_b_t h12)
      obtain ⟨j, hj, rfl⟩ := kh_wi_ix hv hw
      have hj8 : j < 8 := Nat.lt_of_lt_of_le hj hv.1
      have e0 : sp_ask z (nI j) x = _ := if_neg (fun q => by rcases q with q | q; rw [hw] at q; cases q; exact q h)
      obtain ⟨i, hi, rfl⟩ := kf8 h
      rw [kh_nat_nI (by omega), kh_nat_nI (by omega)] at e0
      rw [e0] at k
      refine ks_K_ask_21 <| ks_K_ask_22 <| ks_K_ask_25 <| ks_K_ask_26 <| ks_K_ask_27 (by first | rfl | assumption) (Nat.le_of_ble_eq_true rfl) ?_
      refine kt_H_hearAnswer rfl ha.h hv hj hi (fun μ' a1 f1 => ?_)
      have k1 := k _ (ha.hall a1 (kK_fr1 f1)) (kK_frP (kK_fr1 f1))
      dsimp only at k1
      refine ks_K_ask_30 (fun h30 => ?_) (fun h30 => ?_)
      · rw [kq_b_f h30] at k1
        refine ks_K_ask_37 <| ks_K_ask_38 ?_
        exact k1
      · rw [kq_b_t h30] at k1
        refine ks_K_ask_33 <| ks_K_ask_34 <| ks_K_ask_38 ?_
        exact k1
    · exact fin (if_pos (Or.inr (of_decide_eq_false (kq_b_f h12))))
theorem ko_K_swap (hz : kz_ok z) : kK_ct km_K_swap [kq_I w, kq_I x] z (sp_swap z w x).2 (kq_I (sp_swap z w x).1) := by
  intro μ Q ha k
  have hv := hz.1.1
  have fin : (sp_swap z w x = kz_F z 0) → kq_S km_K_swap 11 21 [some (kq_R 0 0), some (kq_I w), some (kq_I x)] [] μ Q := by
    intro e
    rw [e] at k
    refine ks_K_swap_21 <| ks_K_swap_22 <| ks_K_swap_23 (Nat.le_of_ble_eq_true rfl) ?_
    refine kt_K_fin 0 ha (by decide) (fun μ' a1 f1 => ?_)
    refine ks_K_swap_26 ?_
    exact k μ' a1 f1
  refine ke_K_swap ?_
  refine ks_K_swap_0 <| ks_K_swap_1 <| ks_K_swap_2 (Nat.le_of_ble_eq_true rfl) ?_
  refine kt_K_isWitness ha hv ?_
  refine ks_K_swap_5 (fun h5 => ?_) (fun h5 => ?_)
  · exact fin (if_pos (Or.inl (kq_b_f h5)))
  · have hw := kq_b_t h5
    refine ks_K_swap_8 <| ks_K_swap_9 <| ks_K_swap_10 (Nat.le_of_ble_eq_true rfl) ?_
    refine kt_K_isWitness ha hv ?_
    refine ks_K_swap_13 (fun h13 => ?_) (fun h13 => ?_)
    · exact fin (if_pos (Or.inr (Or.inl (kq_b_f h13))))
    · have ho := kq_b_t h13
      refine ks_K_swap_16 <| ks_K_swap_17 <| ks_K_swap_18 (fun h18 => ?_) (fun h18 => ?_)
      · have e0 : sp_swap z w x = _ := if_neg (fun q => by rcases q with q | q | q; rw [hw] at q; cases q; rw [ho] at q; cases q; exact h18 q)
        obtain ⟨j, hj, rfl⟩ := kh_wi_ix hv hw
        obtain ⟨i, hi, rfl⟩ := kh_wi_ix hv ho
        have hc8 := hv.1
        rw [kh_nat_nI (by omega), kh_nat_nI (by omega)] at e0
        rw [e0] at k
        refine ks_K_swap_27 <| ks_K_swap_28 <| ks_K_swap_31 <| ks_K_swap_32 <| ks_K_swap_33 (by first | rfl | assumption) (Nat.le_of_ble_eq_true rfl) ?_
        refine kt_H_changeNumbers rfl ha.h hv hj hi (fun μ' a1 f1 => ?_)
        refine ks_K_swap_36 <| ks_K_swap_37 ?_
        exact k _ (ha.hall a1 (kK_fr1 f1)) (kK_frP (kK_fr1 f1))
      · exact fin (if_pos (Or.inr (Or.inr h18)))
theorem ko_K_minutes (hz : kz_ok z) : kK_ct km_K_minutes [kq_I x] z (sp_minutes z x).2 (kq_I (sp_minutes z x).1) := by
  intro μ Q ha k
  have hv := hz.1.1
  have hm := hz.1.2
  refine ke_K_minutes ?_
  refine ks_K_minutes_0 <| ks_K_minutes_1 <| ks_K_minutes_2 <| ks_K_minutes_4 (Nat.le_of_ble_eq_true rfl) ?_
  refine kt_K_isWithin ?_
  refine ks_K_minutes_7 (fun h7 => ?_) (fun h7 => ?_)
  · have h := of_decide_eq_true (kq_b_t h7)
    have e0 : sp_minutes z x = _ := if_neg (fun q => q h)
    obtain ⟨j, hj, rfl⟩ := kn_of_le (c := 100) (by decide) (by decide) h
    rw [kh_nat_nI (by omega)] at e0
    refine ks_K_minutes_16 <| ks_K_minutes_17 <| ks_K_minutes_20 (by first | rfl | assumption) <| ks_K_minutes_23 <| ks_K_minutes_24 <| ks_K_minutes_25 <| ks_K_minutes_27 (fun h27 => ?_) (fun h27 => ?_)
    · rw [ha.h.m, nI_add, ki_le, nI_toInt (by omega), show (99999 : Int32).toInt = 99999 from by decide] at h27
      rw [if_neg (by omega)] at e0
      rw [e0] at k
      refine ks_K_minutes_36 <| ks_K_minutes_37 <| ks_K_minutes_40 <| ks_K_minutes_41 (by first | rfl | assumption) (Nat.le_of_ble_eq_true rfl) ?_
      refine kt_H_teaAfter rfl ha.h hv (by omega) (fun μ' a1 f1 => ?_)
      refine ks_K_minutes_44 ?_
      exact k _ (ha.hall a1 (kK_fr1 f1)) (kK_frP (kK_fr1 f1))
    · rw [ha.h.m, nI_add, ki_le, nI_toInt (by omega), show (99999 : Int32).toInt = 99999 from by decide] at h27
      rw [if_pos (by omega)] at e0
      rw [e0] at k
      refine ks_K_minutes_30 <| ks_K_minutes_31 <| ks_K_minutes_32 (Nat.le_of_ble_eq_true rfl) ?_
      refine kt_K_fin 4 ha (by decide) (fun μ' a1 f1 => ?_)
      refine ks_K_minutes_35 ?_
      exact k μ' a1 f1
  · have h := of_decide_eq_false (kq_b_f h7)
    rw [show sp_minutes z x = _ from if_pos h] at k
    refine ks_K_minutes_10 <| ks_K_minutes_11 <| ks_K_minutes_12 (Nat.le_of_ble_eq_true rfl) ?_
    refine kt_K_fin 0 ha (by decide) (fun μ' a1 f1 => ?_)
    refine ks_K_minutes_15 ?_
    exact k μ' a1 f1
theorem ko_K_now (hz : kz_ok z) : kK_ct km_K_now [kq_I a] z (sp_now z a).2 (kq_I (sp_now z a).1) := by
  intro μ Q ha k
  have hv := hz.1.1
  have hc8 := hv.1
  have main : ∀ b : Bool, (b = true ↔ 0 < kh_c (kz_h z)) → kq_S km_K_now 11 15 [some (kq_R 0 0), some (kq_I a), none] [kq_I (kq_b b)] μ Q := by
    intro b hb
    refine ks_K_now_15 rfl <| ks_K_now_16 <| ks_K_now_17 (fun h17 => ?_) (fun h17 => ?_) (fun h17 => ?_) (fun h17 => ?_) (fun h17 => ?_) (fun h17 => ?_) (fun h17 => ?_) (fun h17 => ?_) (fun h17 => ?_)
    · subst h17
      rw [show sp_now z 0 = _ from if_pos rfl] at k
      refine ks_K_now_64 <| ks_K_now_65 <| ks_K_now_68 (by first | rfl | assumption) <| ks_K_now_71 ?_
      rw [ha.h.m]
      exact k _ ha kq_fr.rf
    · subst h17
      rw [show sp_now z 1 = _ from (if_neg (by decide)).trans (if_pos rfl)] at k
      refine ks_K_now_72 <| ks_K_now_73 <| ks_K_now_76 (by first | rfl | assumption) <| ks_K_now_79 ?_
      rw [ha.h.H]
      exact k _ ha kq_fr.rf
    · subst h17
      rw [show sp_now z 2 = _ from (if_neg (by decide)).trans ((if_neg (by decide)).trans (if_pos rfl))] at k
      refine ks_K_now_80 <| ks_K_now_81 <| ks_K_now_84 (by first | rfl | assumption) <| ks_K_now_87 ?_
      rw [ha.h.W]
      exact k _ ha kq_fr.rf
    · subst h17
      rw [show sp_now z 3 = _ from (if_neg (by decide)).trans ((if_neg (by decide)).trans ((if_neg (by decide)).trans (if_pos rfl)))] at k
      refine ks_K_now_88 <| ks_K_now_89 <| ks_K_now_92 (by first | rfl | assumption) <| ks_K_now_95 ?_
      rw [ha.h.E]
      exact k _ ha kq_fr.rf
    · subst h17
      rw [show sp_now z 4 = _ from (if_neg (by decide)).trans ((if_neg (by decide)).trans ((if_neg (by decide)).trans ((if_neg (by decide)).trans (if_pos rfl))))] at k
      refine ks_K_now_96 <| ks_K_now_97 <| ks_K_now_100 (by first | rfl | assumption) <| ks_K_now_103 ?_
      rw [ha.h.B]
      exact k _ ha kq_fr.rf
    · subst h17
      rw [show sp_now z 5 = _ from (if_neg (by decide)).trans ((if_neg (by decide)).trans ((if_neg (by decide)).trans ((if_neg (by decide)).trans ((if_neg (by decide)).trans (if_pos rfl)))))] at k
      refine ks_K_now_104 <| ks_K_now_105 (fun h105 => ?_) (fun h105 => ?_)
      · have hf := kq_b_f h105
        rw [if_pos (by rw [hf] at hb; have := hb.mpr; simp at this; omega)] at k
        refine ks_K_now_118 <| ks_K_now_119 ?_
        exact k _ ha kq_fr.rf
      · have hf := hb.mp (kq_b_t h105)
        rw [if_neg (by omega)] at k
        refine ks_K_now_108 <| ks_K_now_109 <| ks_K_now_112 (by first | rfl | assumption) (Nat.le_of_ble_eq_true rfl) ?_
        refine kt_H_whoseTurn rfl ha.h hv hf ?_
        refine ks_K_now_115 <| ks_K_now_119 ?_
        exact k _ ha kq_fr.rf
    · subst h17
      rw [show sp_now z 6 = _ from (if_neg (by decide)).trans ((if_neg (by decide)).trans ((if_neg (by decide)).trans ((if_neg (by decide)).trans ((if_neg (by decide)).trans ((if_neg (by decide)).trans (if_pos rfl))))))] at k
      refine ks_K_now_120 <| ks_K_now_121 (fun h121 => ?_) (fun h121 => ?_)
      · have hf := kq_b_f h121
        rw [if_pos (by rw [hf] at hb; have := hb.mpr; simp at this; omega)] at k
        refine ks_K_now_134 <| ks_K_now_135 ?_
        exact k _ ha kq_fr.rf
      · have hf := hb.mp (kq_b_t h121)
        rw [if_neg (by omega)] at k
        refine ks_K_now_124 <| ks_K_now_125 <| ks_K_now_128 (by first | rfl | assumption) (Nat.le_of_ble_eq_true rfl) ?_
        refine kt_H_factAsked rfl ha.h hv hf ?_
        refine ks_K_now_131 <| ks_K_now_135 ?_
        exact k _ ha kq_fr.rf
    · subst h17
      rw [show sp_now z 7 = _ from (if_neg (by decide)).trans ((if_neg (by decide)).trans ((if_neg (by decide)).trans ((if_neg (by decide)).trans ((if_neg (by decide)).trans ((if_neg (by decide)).trans ((if_neg (by decide)).trans (if_pos rfl)))))))] at k
      refine ks_K_now_136 <| ks_K_now_137 <| ks_K_now_140 (by first | rfl | assumption) <| ks_K_now_143 ?_
      rw [ha.h.T]
      exact k _ ha kq_fr.rf
    · have n : ∀ y : Int32, 0 ≤ y.toInt → y.toInt ≤ 7 → ¬ a = y := fun y h1 h2 q => by rw [q] at h17; omega
      have e : sp_now z a = kz_F z 0 := by
        unfold sp_now
        rw [if_neg (n 0 (by decide) (by decide)), if_neg (n 1 (by decide) (by decide)), if_neg (n 2 (by decide) (by decide)), if_neg (n 3 (by decide) (by decide)), if_neg (n 4 (by decide) (by decide)), if_neg (n 5 (by decide) (by decide)), if_neg (n 6 (by decide) (by decide)), if_neg (n 7 (by decide) (by decide))]
      rw [e] at k
      refine ks_K_now_144 <| ks_K_now_145 <| ks_K_now_146 (Nat.le_of_ble_eq_true rfl) ?_
      refine kt_K_fin 0 ha (by decide) (fun μ' a1 f1 => ?_)
      refine ks_K_now_149 ?_
      exact k μ' a1 f1
  refine ke_K_now ?_
  refine ks_K_now_0 <| ks_K_now_1 <| ks_K_now_4 (by first | rfl | assumption) <| ks_K_now_7 (fun h7 => ?_) (fun h7 => ?_)
  · rw [ha.h.c] at h7
    refine ks_K_now_14 ?_
    refine main false ⟨fun q => (by cases q), fun q => ?_⟩
    rw [ki_le, nI_toInt (by omega), ki_0] at h7
    omega
  · rw [ha.h.c] at h7
    refine ks_K_now_10 <| ks_K_now_11 ?_
    refine main true ⟨fun q => ?_, fun q => rfl⟩
    rw [ki_le, nI_toInt (by omega), ki_0] at h7
    omega
end KO1
