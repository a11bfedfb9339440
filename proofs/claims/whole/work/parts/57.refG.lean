/-! THE REFERENCE: its calls (4): what comes first, what is best -/
section KM7
variable {z : kz_S} {w a x n s f : Int32}
theorem ko_M_boils (hz : kz_ok z) : kM_ct km_M_boils [] z (sp_boils z).2 (kq_I (sp_boils z).1) := by
  intro μ Q ha k
  have hv := hz.1.1
  have hc8 := hv.1
  have hm := hz.1.2
  unfold sp_boils at k
  have out : ∀ (i : Nat) (o : Option Nat) (μ1 : kq_M), i < 2 ^ 31 → kr_at μ1 23 (kz_h z) → kM_h μ μ1 → o = kg_fb 200 1 (kz_h z) → o = (if 200 < i then none else some i) → kq_S km_M_boils 11 40 [some (kq_R 0 20), some (kq_I (nI i))] [] μ1 Q := by
    intro i o μ1 hi t1 f1 e1 e2
    rw [← e1, e2] at k
    refine ks_M_boils_40 <| ks_M_boils_41 <| ks_M_boils_42 <| ks_M_boils_43 <| ks_M_boils_46 (Nat.le_of_ble_eq_true rfl) ?_
    refine kt_M_bk t1 hc8 (fun μ2 a2 t2 f2 => ?_)
    have a3 : kM_at μ2 z := ha.hall a2 (f1.tr f2)
    have f3 := (f1.tr f2).P
    refine ks_M_boils_49 <| ks_M_boils_50 <| ks_M_boils_53 (fun h53 => ?_) (fun h53 => ?_)
    · rw [ki_le, ki_200, nI_toInt hi] at h53
      rw [if_neg (by omega)] at k
      refine ks_M_boils_65 <| ks_M_boils_66 ?_
      exact k μ2 a3 f3
    · rw [ki_le, ki_200, nI_toInt hi] at h53
      rw [if_pos (by omega)] at k
      refine ks_M_boils_56 <| ks_M_boils_57 <| ks_M_boils_59 (Nat.le_of_ble_eq_true rfl) ?_
      refine kt_M_fin 3 a3 (by decide) (by decide) (fun μ' a4 f4 => ?_)
      refine ks_M_boils_62 <| ks_M_boils_66 ?_
      exact k μ' a4 (f3.tr f4)
  have loop : ∀ (q i : Nat) (μ1 : kq_M), i + q = 200 → kr_at μ1 21 (kh_pass i (kz_h z)) → kr_at μ1 23 (kz_h z) → kM_h μ μ1 → kq_rI μ1 0 20 2 = 0 → kg_fb q (i + 1) (kh_pass i (kz_h z)) = kg_fb 200 1 (kz_h z) → kq_S km_M_boils 11 16 [some (kq_R 0 20), some (kq_I (nI i))] [] μ1 Q := by
    intro q
    induction q with
    | zero =>
      intro i μ1 hi a1 t1 f1 b1 e
      refine ks_M_boils_16 <| ks_M_boils_17 <| ks_M_boils_20 (fun h20 => ?_) (fun h20 => ?_)
      · rw [ki_lt, ki_200, nI_toInt (by omega)] at h20
        omega
      · refine ks_M_boils_23 <| ks_M_boils_24 <| ks_M_boils_27 (fun h27 => ?_) (fun h27 => ?_)
        · exact absurd b1 h27
        · refine ks_M_boils_30 <| ks_M_boils_31 (Nat.le_of_ble_eq_true rfl) ?_
          refine kt_M_oneMinute a1 (kh_pass_ok i _ hv (by omega)) (fun μ2 a2 f2 b2 => ?_)
          refine ks_M_boils_34n rfl <| ks_M_boils_37 ?_
          refine ks_M_boils_16 <| ks_M_boils_17 <| ks_M_boils_20 (fun h20 => ?_) (fun h20 => ?_)
          · exact out (i + 1) none μ2 (by omega) (f2.t t1) (f1.tr f2.h) (by rw [← e]; rfl) (by rw [if_pos (by omega)])
          · rw [ki_lt, ki_200, nI_toInt (by omega)] at h20
            omega
    | succ q ih =>
      intro i μ1 hi a1 t1 f1 b1 e
      have e1 : kg_fb (q + 1) (i + 1) (kh_pass i (kz_h z)) = if kh_minB (kh_pass i (kz_h z)) = true then some (i + 1) else kg_fb q (i + 1 + 1) (kh_min (kh_pass i (kz_h z))) := rfl
      refine ks_M_boils_16 <| ks_M_boils_17 <| ks_M_boils_20 (fun h20 => ?_) (fun h20 => ?_)
      · rw [ki_lt, ki_200, nI_toInt (by omega)] at h20
        omega
      · refine ks_M_boils_23 <| ks_M_boils_24 <| ks_M_boils_27 (fun h27 => ?_) (fun h27 => ?_)
        · exact absurd b1 h27
        · refine ks_M_boils_30 <| ks_M_boils_31 (Nat.le_of_ble_eq_true rfl) ?_
          refine kt_M_oneMinute a1 (kh_pass_ok i _ hv (by omega)) (fun μ2 a2 f2 b2 => ?_)
          refine ks_M_boils_34n rfl <| ks_M_boils_37 ?_
          cases hb : kh_minB (kh_pass i (kz_h z)) with
          | false =>
            rw [hb] at b2 e1
            rw [if_neg (by decide)] at e1
            rw [← kh_pass_s] at a2 e1
            exact ih (i + 1) μ2 (by omega) a2 (f2.t t1) (f1.tr f2.h) b2 (e1.symm.trans e)
          | true =>
            rw [hb] at b2 e1
            rw [if_pos rfl] at e1
            refine ks_M_boils_16 <| ks_M_boils_17 <| ks_M_boils_20 (fun h20 => ?_) (fun h20 => ?_)
            · rw [ki_lt, ki_200, nI_toInt (by omega)] at h20
              omega
            · refine ks_M_boils_23 <| ks_M_boils_24 <| ks_M_boils_27 (fun h27 => ?_) (fun h27 => ?_)
              · exact out (i + 1) (some (i + 1)) μ2 (by omega) (f2.t t1) (f1.tr f2.h) (e1.symm.trans e) (by rw [if_neg (by omega)])
              · rw [b2] at h27
                exact absurd h27 (by decide)
  refine ke_M_boils ?_
  refine ks_M_boils_0 <| ks_M_boils_1 <| ks_M_boils_2 <| ks_M_boils_3 <| ks_M_boils_6 (Nat.le_of_ble_eq_true rfl) ?_
  refine kt_M_try ha.h hc8 (fun μ1 a1 t1 f1 => ?_)
  refine ks_M_boils_9 <| ks_M_boils_10 rfl <| ks_M_boils_11 <| ks_M_boils_12 <| ks_M_boils_13 ?_
  have fl : kM_m μ1 (kq_wI μ1 0 20 2 0) := kM_m.rf.flag
  exact loop 200 0 _ rfl a1.flag (fl.t t1) (f1.tr fl.h) kc_ws rfl
theorem ko_M_doubts (hz : kz_ok z) : kM_ct km_M_doubts [kq_I w] z (sp_doubts z w).2 (kq_I (sp_doubts z w).1) := by
  intro μ Q ha k
  have hv := hz.1.1
  have hc8 := hv.1
  have hm := hz.1.2
  refine ke_M_doubts ?_
  refine ks_M_doubts_0 <| ks_M_doubts_1 <| ks_M_doubts_2 (Nat.le_of_ble_eq_true rfl) ?_
  refine kt_M_isOne ha.h hv ?_
  refine ks_M_doubts_5 (fun h5 => ?_) (fun h5 => ?_)
  · have hw := kq_b_t h5
    have e0 : sp_doubts z w = _ := if_neg (by rw [hw]; decide)
    obtain ⟨y, hy, rfl⟩ := kh_wi_ix hv hw
    rw [kh_nat_nI (show y < 2 ^ 31 by omega)] at e0
    rw [e0] at k
    have out : ∀ (i : Nat) (o : Option Nat) (μ1 : kq_M), i < 2 ^ 31 → kr_at μ1 23 (kz_h z) → kM_h μ μ1 → o = kg_fd y 201 0 (kz_h z) → o = (if 200 < i then none else some i) → kq_S km_M_doubts 11 52 [some (kq_R 0 20), some (kq_I (nI y)), some (kq_I (nI i))] [] μ1 Q := by
      intro i o μ1 hi t1 f1 e1 e2
      rw [← e1, e2] at k
      refine ks_M_doubts_52 <| ks_M_doubts_53 <| ks_M_doubts_54 <| ks_M_doubts_55 <| ks_M_doubts_58 (Nat.le_of_ble_eq_true rfl) ?_
      refine kt_M_bk t1 hc8 (fun μ2 a2 t2 f2 => ?_)
      have a3 : kM_at μ2 z := ha.hall a2 (f1.tr f2)
      have f3 := (f1.tr f2).P
      refine ks_M_doubts_61 <| ks_M_doubts_62 <| ks_M_doubts_65 (fun h65 => ?_) (fun h65 => ?_)
      · rw [ki_le, ki_200, nI_toInt hi] at h65
        rw [if_neg (by omega)] at k
        refine ks_M_doubts_77 <| ks_M_doubts_78 ?_
        exact k μ2 a3 f3
      · rw [ki_le, ki_200, nI_toInt hi] at h65
        rw [if_pos (by omega)] at k
        refine ks_M_doubts_68 <| ks_M_doubts_69 <| ks_M_doubts_71 (Nat.le_of_ble_eq_true rfl) ?_
        refine kt_M_fin 3 a3 (by decide) (by decide) (fun μ' a4 f4 => ?_)
        refine ks_M_doubts_74 <| ks_M_doubts_78 ?_
        exact k μ' a4 (f3.tr f4)
    have loop : ∀ (q i : Nat) (μ1 : kq_M), i + q = 201 → kr_at μ1 21 (kh_pass i (kz_h z)) → kr_at μ1 23 (kz_h z) → kM_h μ μ1 → kg_fd y q i (kh_pass i (kz_h z)) = kg_fd y 201 0 (kz_h z) → kq_S km_M_doubts 11 26 [some (kq_R 0 20), some (kq_I (nI y)), some (kq_I (nI i))] [] μ1 Q := by
      intro q
      induction q with
      | zero =>
        intro i μ1 hi a1 t1 f1 e
        refine ks_M_doubts_26 <| ks_M_doubts_27 <| ks_M_doubts_30 (fun h30 => ?_) (fun h30 => ?_)
        · exact out i none μ1 (by omega) t1 f1 e (by rw [if_pos (by omega)])
        · rw [ki_lt, ki_200, nI_toInt (by omega)] at h30
          omega
      | succ q ih =>
        intro i μ1 hi a1 t1 f1 e
        have o1 := kh_pass_ok i (kz_h z) hv (by omega)
        have c1 : y < kh_c (kh_pass i (kz_h z)) := by rw [kh_pass_c]; exact hy
        have hu := o1.2.2.2.2.2.2.2.2.2.2 y c1
        rw [kh_in_iff, ki_0] at hu
        have e1 : kg_fd y (q + 1) i (kh_pass i (kz_h z)) = if kh_u (kh_pass i (kz_h z)) y = 0 then some i else kg_fd y q (i + 1) (kh_min (kh_pass i (kz_h z))) := rfl
        refine ks_M_doubts_26 <| ks_M_doubts_27 <| ks_M_doubts_30 (fun h30 => ?_) (fun h30 => ?_)
        · rw [ki_lt, ki_200, nI_toInt (by omega)] at h30
          omega
        · refine ks_M_doubts_33 <| ks_M_doubts_34 <| ks_M_doubts_35 <| ks_M_doubts_36 (Nat.le_of_ble_eq_true rfl) ?_
          refine kt_M_its3 a1 o1 c1 ?_
          refine ks_M_doubts_39 (fun h39 => ?_) (fun h39 => ?_)
          · rw [ki_le, ki_0] at h39
            rw [if_pos ((ki_eq _ _).mpr (by rw [ki_0]; omega))] at e1
            exact out i (some i) μ1 (by omega) t1 f1 (e1.symm.trans e) (by rw [if_neg (by omega)])
          · rw [ki_le, ki_0] at h39
            rw [if_neg (fun q => by rw [ki_eq, ki_0] at q; omega)] at e1
            refine ks_M_doubts_42 <| ks_M_doubts_43 (Nat.le_of_ble_eq_true rfl) ?_
            refine kt_M_oneMinute a1 o1 (fun μ2 a2 f2 b2 => ?_)
            refine ks_M_doubts_46n rfl <| ks_M_doubts_49 ?_
            rw [← kh_pass_s] at a2 e1
            exact ih (i + 1) μ2 (by omega) a2 (f2.t t1) (f1.tr f2.h) (e1.symm.trans e)
    refine ks_M_doubts_15 <| ks_M_doubts_16 <| ks_M_doubts_17 <| ks_M_doubts_18 <| ks_M_doubts_21 (Nat.le_of_ble_eq_true rfl) ?_
    refine kt_M_try ha.h hc8 (fun μ1 a1 t1 f1 => ?_)
    refine ks_M_doubts_24 <| ks_M_doubts_25 rfl ?_
    exact loop 201 0 μ1 rfl a1 t1 f1 rfl
  · rw [show sp_doubts z w = _ from if_pos (kq_b_f h5)] at k
    refine ks_M_doubts_8 <| ks_M_doubts_9 <| ks_M_doubts_11 (Nat.le_of_ble_eq_true rfl) ?_
    refine kt_M_fin 0 ha (by decide) (by decide) (fun μ' a1 f1 => ?_)
    refine ks_M_doubts_14 ?_
    exact k μ' a1 f1
theorem ko_M_worst (hz : kz_ok z) : kM_ct km_M_worst [kq_I w] z (sp_worst z w).2 (kq_I (sp_worst z w).1) := by
  intro μ Q ha k
  have hv := hz.1.1
  have hc8 := hv.1
  refine ke_M_worst ?_
  refine ks_M_worst_0 <| ks_M_worst_1 <| ks_M_worst_2 (Nat.le_of_ble_eq_true rfl) ?_
  refine kt_M_isOne ha.h hv ?_
  refine ks_M_worst_5 (fun h5 => ?_) (fun h5 => ?_)
  · have hw := kq_b_t h5
    have e0 : sp_worst z w = _ := if_neg (by rw [hw]; decide)
    obtain ⟨y, hy, rfl⟩ := kh_wi_ix hv hw
    rw [kh_nat_nI (show y < 2 ^ 31 by omega)] at e0
    rw [e0] at k
    generalize hG : (fun f => kh_H (kh_ans (kz_h z) y f)) = G at k
    have hGi : ∀ i, kh_H (kh_ans (kz_h z) y i) = G i := fun i => by rw [← hG]
    have loop : ∀ (q i : Nat) (b m : Int32) (μ1 : kq_M) (o : Option kq_V), i + q = 8 → kr_at μ1 21 (kz_h z) → kr_at μ1 23 (kz_h z) → kM_h μ μ1 → kg_amax G q i b m = kg_amax G 8 0 0 (-1) → kq_S km_M_worst 11 31 [some (kq_R 0 20), some (kq_I (nI y)), some (kq_I b), some (kq_I m), some (kq_I (nI i)), o] [] μ1 Q := by
      intro q
      induction q with
      | zero =>
        intro i b m μ1 o hi a1 t1 f1 e
        rw [← e] at k
        refine ks_M_worst_31 <| ks_M_worst_33 <| ks_M_worst_35 (fun h35 => ?_) (fun h35 => ?_)
        · refine ks_M_worst_94 <| ks_M_worst_95 ?_
          exact k μ1 (ha.hall a1 f1) f1.P
        · rw [ki_le, ki_8, nI_toInt (by omega)] at h35
          omega
      | succ q ih =>
        intro i b m μ1 o hi a1 t1 f1 e
        have e1 : kg_amax G (q + 1) i b m = if m < G i then kg_amax G q (i + 1) (nI i) (G i) else kg_amax G q (i + 1) b m := rfl
        refine ks_M_worst_31 <| ks_M_worst_33 <| ks_M_worst_35 (fun h35 => ?_) (fun h35 => ?_)
        · rw [ki_le, ki_8, nI_toInt (by omega)] at h35
          omega
        · refine ks_M_worst_38 <| ks_M_worst_39 <| ks_M_worst_40 <| ks_M_worst_42 (Nat.le_of_ble_eq_true rfl) ?_
          refine kt_M_answers a1 hv hy (by omega) (fun μ2 a2 f2 b2 => ?_)
          refine ks_M_worst_45 <| ks_M_worst_46 <| ks_M_worst_49 <| ks_M_worst_50 <| ks_M_worst_51 rfl <| ks_M_worst_53 <| ks_M_worst_54 <| ks_M_worst_55 <| ks_M_worst_56 <| ks_M_worst_59 (Nat.le_of_ble_eq_true rfl) ?_
          rw [a2.H, hGi]
          refine kt_M_bk (f2.t t1) hc8 (fun μ3 a3 t3 f3 => ?_)
          have f4 := (f1.tr f2.h).tr f3
          refine ks_M_worst_62 <| ks_M_worst_64 <| ks_M_worst_65 (fun h65 => ?_) (fun h65 => ?_)
          · rw [if_neg (by rw [ki_le] at h65; rw [ki_lt]; omega)] at e1
            refine ks_M_worst_73 <| ks_M_worst_74 rfl <| ks_M_worst_75 <| ks_M_worst_77 <| ks_M_worst_78 (fun h78 => ?_) (fun h78 => ?_)
            · refine ks_M_worst_86 <| ks_M_worst_87 rfl <| ks_M_worst_88n rfl <| ks_M_worst_91 ?_
              exact ih (i + 1) b m μ3 _ (by omega) a3 t3 f4 (e1.symm.trans e)
            · exact absurd h65 h78
          · rw [if_pos (by rw [ki_le] at h65; rw [ki_lt]; omega)] at e1
            refine ks_M_worst_68 <| ks_M_worst_70 <| ks_M_worst_74 rfl <| ks_M_worst_75 <| ks_M_worst_77 <| ks_M_worst_78 (fun h78 => ?_) (fun h78 => ?_)
            · exact absurd h78 h65
            · refine ks_M_worst_81 <| ks_M_worst_83 <| ks_M_worst_87 rfl <| ks_M_worst_88n rfl <| ks_M_worst_91 ?_
              exact ih (i + 1) (nI i) (G i) μ3 _ (by omega) a3 t3 f4 (e1.symm.trans e)
    refine ks_M_worst_15 <| ks_M_worst_16 rfl <| ks_M_worst_17 <| ks_M_worst_18 rfl <| ks_M_worst_19 <| ks_M_worst_20 <| ks_M_worst_21 <| ks_M_worst_22 <| ks_M_worst_25 (Nat.le_of_ble_eq_true rfl) ?_
    refine kt_M_try ha.h hc8 (fun μ1 a1 t1 f1 => ?_)
    refine ks_M_worst_28 <| ks_M_worst_29 rfl ?_
    exact loop 8 0 0 (-1) μ1 none rfl a1 t1 f1 rfl
  · rw [show sp_worst z w = _ from if_pos (kq_b_f h5)] at k
    refine ks_M_worst_8 <| ks_M_worst_9 <| ks_M_worst_11 (Nat.le_of_ble_eq_true rfl) ?_
    refine kt_M_fin 0 ha (by decide) (by decide) (fun μ' a1 f1 => ?_)
    refine ks_M_worst_14 ?_
    exact k μ' a1 f1
theorem ko_M_fact (hz : kz_ok z) : kM_ct km_M_fact [kq_I n] z (sp_fact z n).2 (kq_I (sp_fact z n).1) := by
  intro μ Q ha k
  have hv := hz.1.1
  have hc8 := hv.1
  have hm := hz.1.2
  refine ke_M_fact ?_
  refine ks_M_fact_0 <| ks_M_fact_1 <| ks_M_fact_2 <| ks_M_fact_4 (Nat.le_of_ble_eq_true rfl) ?_
  refine kt_M_in ?_
  refine ks_M_fact_7 (fun h7 => ?_) (fun h7 => ?_)
  · have h := of_decide_eq_true (kq_b_t h7)
    have e0 : sp_fact z n = _ := if_neg (fun q => q h)
    obtain ⟨j, hj, rfl⟩ := kn_of_le (c := 60) (by decide) (by decide) h
    rw [kh_nat_nI (by omega)] at e0
    rw [e0] at k
    generalize hG : (fun f => kh_E (kh_pass j (kh_setT (kz_h z) (kh_T (kz_h z) ^^^ ((1 : Int32) <<< (nI f &&& 31)))))) = G at k
    have hGi : ∀ i, kh_E (kh_pass j (kh_setT (kz_h z) (kh_T (kz_h z) ^^^ ((1 : Int32) <<< (nI i &&& 31))))) = G i := fun i => by rw [← hG]
    have loop : ∀ (q i : Nat) (b m : Int32) (μ1 : kq_M) (o : Option kq_V), i + q = 8 → kr_at μ1 21 (kz_h z) → kr_at μ1 23 (kz_h z) → kM_h μ μ1 → kg_amax G q i b m = kg_amax G 8 0 0 (-1) → kq_S km_M_fact 11 33 [some (kq_R 0 20), some (kq_I (nI j)), some (kq_I b), some (kq_I m), some (kq_I (nI i)), o] [] μ1 Q := by
      intro q
      induction q with
      | zero =>
        intro i b m μ1 o hi a1 t1 f1 e
        rw [← e] at k
        refine ks_M_fact_33 <| ks_M_fact_35 <| ks_M_fact_37 (fun h37 => ?_) (fun h37 => ?_)
        · refine ks_M_fact_92 <| ks_M_fact_93 ?_
          exact k μ1 (ha.hall a1 f1) f1.P
        · rw [ki_le, ki_8, nI_toInt (by omega)] at h37
          omega
      | succ q ih =>
        intro i b m μ1 o hi a1 t1 f1 e
        have e1 : kg_amax G (q + 1) i b m = if m < G i then kg_amax G q (i + 1) (nI i) (G i) else kg_amax G q (i + 1) b m := rfl
        refine ks_M_fact_33 <| ks_M_fact_35 <| ks_M_fact_37 (fun h37 => ?_) (fun h37 => ?_)
        · rw [ki_le, ki_8, nI_toInt (by omega)] at h37
          omega
        · refine ks_M_fact_40 <| ks_M_fact_41 <| ks_M_fact_44 <| ks_M_fact_45 rfl rfl <| ks_M_fact_46 <| ks_M_fact_47 <| ks_M_fact_48 <| ks_M_fact_50 <| ks_M_fact_51 <| ks_M_fact_52 <| ks_M_fact_53 <| ks_M_fact_54 <| ks_M_fact_55 (Nat.le_of_ble_eq_true rfl) ?_
          rw [a1.T]
          refine kt_M_teaBehind a1.wT (kh_setT_ok hv (kh_xor255 hv.2.1 (by omega))) (by show kh_m (kz_h z) + _ < _; omega) (v0 := kz_h z) ?_ hc8 (fun μ3 a3 t3 f3 => ?_)
          · exact t1.fr (P := fun a b => a = 0 ∧ b = 21) (kq_fr.rf.wI ⟨rfl, rfl⟩) (fun q => by cases q.2)
          have f4 := (f1.row).tr f3.h
          rw [hGi]
          refine ks_M_fact_58 rfl <| ks_M_fact_60 <| ks_M_fact_62 <| ks_M_fact_63 (fun h63 => ?_) (fun h63 => ?_)
          · rw [if_neg (by rw [ki_le] at h63; rw [ki_lt]; omega)] at e1
            refine ks_M_fact_71 <| ks_M_fact_72 rfl <| ks_M_fact_73 <| ks_M_fact_75 <| ks_M_fact_76 (fun h76 => ?_) (fun h76 => ?_)
            · refine ks_M_fact_84 <| ks_M_fact_85 rfl <| ks_M_fact_86n rfl <| ks_M_fact_89 ?_
              exact ih (i + 1) b m μ3 _ (by omega) a3 t3 f4 (e1.symm.trans e)
            · exact absurd h63 h76
          · rw [if_pos (by rw [ki_le] at h63; rw [ki_lt]; omega)] at e1
            refine ks_M_fact_66 <| ks_M_fact_68 <| ks_M_fact_72 rfl <| ks_M_fact_73 <| ks_M_fact_75 <| ks_M_fact_76 (fun h76 => ?_) (fun h76 => ?_)
            · exact absurd h76 h63
            · refine ks_M_fact_79 <| ks_M_fact_81 <| ks_M_fact_85 rfl <| ks_M_fact_86n rfl <| ks_M_fact_89 ?_
              exact ih (i + 1) (nI i) (G i) μ3 _ (by omega) a3 t3 f4 (e1.symm.trans e)
    refine ks_M_fact_17 <| ks_M_fact_18 rfl <| ks_M_fact_19 <| ks_M_fact_20 rfl <| ks_M_fact_21 <| ks_M_fact_22 <| ks_M_fact_23 <| ks_M_fact_24 <| ks_M_fact_27 (Nat.le_of_ble_eq_true rfl) ?_
    refine kt_M_try ha.h hc8 (fun μ1 a1 t1 f1 => ?_)
    refine ks_M_fact_30 <| ks_M_fact_31 rfl ?_
    exact loop 8 0 0 (-1) μ1 none rfl a1 t1 f1 rfl
  · rw [show sp_fact z n = _ from if_pos (of_decide_eq_false (kq_b_f h7))] at k
    refine ks_M_fact_10 <| ks_M_fact_11 <| ks_M_fact_13 (Nat.le_of_ble_eq_true rfl) ?_
    refine kt_M_fin 0 ha (by decide) (by decide) (fun μ' a1 f1 => ?_)
    refine ks_M_fact_16 ?_
    exact k μ' a1 f1
end KM7
