/-! THE CLASS (3): set, turns, kind, says, fact -/
section KO3
variable {z : kz_S} {w n a x : Int32}
theorem ko_K_set (hz : kz_ok z) : kK_ct km_K_set [kq_I w, kq_I a, kq_I x] z (sp_set z w a x).2 (kq_I (sp_set z w a x).1) := by
  intro μ Q ha k
  have hv := hz.1.1
  refine ke_K_set ?_
  refine ks_K_set_0 <| ks_K_set_1 <| ks_K_set_2 (Nat.le_of_ble_eq_true rfl) ?_
  refine kt_K_isWitness ha hv ?_
  refine ks_K_set_5 (fun h5 => ?_) (fun h5 => ?_)
  · rw [show sp_set z w a x = _ from if_pos (kq_b_f h5)] at k
    refine ks_K_set_17 <| ks_K_set_18 <| ks_K_set_19 (Nat.le_of_ble_eq_true rfl) ?_
    refine kt_K_fin 0 ha (by decide) (fun μ' a1 f1 => ?_)
    refine ks_K_set_22 ?_
    exact k μ' a1 f1
  · have hw := kq_b_t h5
    have e0 : sp_set z w a x = _ := if_neg (by rw [hw]; decide)
    obtain ⟨j, hj, rfl⟩ := kh_wi_ix hv hw
    have hj8 : j < 8 := Nat.lt_of_lt_of_le hj hv.1
    rw [kh_nat_nI (by omega)] at e0
    rw [e0] at k
    refine ks_K_set_8 <| ks_K_set_9 <| ks_K_set_10 <| ks_K_set_11 (Nat.le_of_ble_eq_true rfl) ?_
    refine kt_K_isWithin ?_
    refine ks_K_set_14 (fun h14 => ?_) (fun h14 => ?_)
    · have h13 := of_decide_eq_true (kq_b_t h14)
      rw [ki_le, ki_le, ki_1, ki_3] at h13
      have fin : kq_S km_K_set 11 44 [some (kq_R 0 0), some (kq_I (nI j)), some (kq_I a), some (kq_I x), none, none] [] μ (fun r m => Q r m) ∨ True := Or.inr trivial
      have fn : ((if a = 1 ∧ 0 ≤ x ∧ x ≤ 255 then (kh_n (kz_h z) j, kz_seth z (kh_setn (kz_h z) j x)) else if a = 2 ∧ 0 ≤ x ∧ x ≤ 255 then (kh_s (kz_h z) j, kz_seth z (kh_sets (kz_h z) j x)) else if a = 3 ∧ 0 ≤ x ∧ x ≤ 9 then (kh_u (kz_h z) j, kz_seth z (kh_setu (kz_h z) j x)) else kz_F z 0) = kz_F z 0) → kq_S km_K_set 11 44 [some (kq_R 0 0), some (kq_I (nI j)), some (kq_I a), some (kq_I x), none, none] [] μ Q := by
        intro e
        rw [e] at k
        refine ks_K_set_44 <| ks_K_set_45 <| ks_K_set_46 (Nat.le_of_ble_eq_true rfl) ?_
        refine kt_K_fin 0 ha (by decide) (fun μ' a1 f1 => ?_)
        refine ks_K_set_49 ?_
        exact k μ' a1 f1
      have wr : ∀ i, (i = 3 ∨ i = 4 ∨ i = 5) → (∀ μ', kK_at μ' (kz_seth z (if i = 3 then kh_setn (kz_h z) j x else if i = 4 then kh_sets (kz_h z) j x else kh_setu (kz_h z) j x)) → kq_fr kK_P μ μ' → Q (some (kq_I (if i = 3 then kh_n (kz_h z) j else if i = 4 then kh_s (kz_h z) j else kh_u (kz_h z) j))) μ') → kq_S km_K_set 11 87 [some (kq_R 0 0), some (kq_I (nI j)), some (kq_I a), some (kq_I x), none, none] [kq_R 1 i] μ Q := by
        intro i hi kk
        have fr : ∀ y, kq_fr (kc_P 1) μ (kq_wI μ 1 y j x) ∨ ¬ (1 ≤ y ∧ y ≤ 5) := fun y => by
          by_cases h : 1 ≤ y ∧ y ≤ 5
          · exact Or.inl (kq_fr.rf.wI ⟨rfl, h⟩)
          · exact Or.inr h
        rcases hi with rfl | rfl | rfl
        · refine ks_K_set_87 rfl rfl <| ks_K_set_89 rfl <| ks_K_set_91 <| ks_K_set_92n rfl rfl (by first | rfl | assumption) (by assumption) <| ks_K_set_93 rfl <| ks_K_set_95 rfl <| ks_K_set_97 <| ks_K_set_98 <| ks_K_set_99n rfl rfl (by first | rfl | assumption) (by assumption) <| ks_K_set_100 <| ks_K_set_102 ?_
          rw [ha.h.n hj]
          have f1 : kq_fr (kc_P 1) μ (kq_wI μ 1 3 j x) := kq_fr.rf.wI ⟨rfl, by decide, by decide⟩
          exact kk _ (ha.hall ha.h.wn (kK_fr1 f1)) (kK_frP (kK_fr1 f1))
        · refine ks_K_set_87 rfl rfl <| ks_K_set_89 rfl <| ks_K_set_91 <| ks_K_set_92n rfl rfl (by first | rfl | assumption) (by assumption) <| ks_K_set_93 rfl <| ks_K_set_95 rfl <| ks_K_set_97 <| ks_K_set_98 <| ks_K_set_99n rfl rfl (by first | rfl | assumption) (by assumption) <| ks_K_set_100 <| ks_K_set_102 ?_
          rw [ha.h.s hj]
          have f1 : kq_fr (kc_P 1) μ (kq_wI μ 1 4 j x) := kq_fr.rf.wI ⟨rfl, by decide, by decide⟩
          exact kk _ (ha.hall ha.h.ws (kK_fr1 f1)) (kK_frP (kK_fr1 f1))
        · refine ks_K_set_87 rfl rfl <| ks_K_set_89 rfl <| ks_K_set_91 <| ks_K_set_92n rfl rfl (by first | rfl | assumption) (by assumption) <| ks_K_set_93 rfl <| ks_K_set_95 rfl <| ks_K_set_97 <| ks_K_set_98 <| ks_K_set_99n rfl rfl (by first | rfl | assumption) (by assumption) <| ks_K_set_100 <| ks_K_set_102 ?_
          rw [ha.h.u hj]
          have f1 : kq_fr (kc_P 1) μ (kq_wI μ 1 5 j x) := kq_fr.rf.wI ⟨rfl, by decide, by decide⟩
          exact kk _ (ha.hall ha.h.wu (kK_fr1 f1)) (kK_frP (kK_fr1 f1))
      refine ks_K_set_23 <| ks_K_set_24 <| ks_K_set_25 <| ks_K_set_26 <| ks_K_set_27 (fun h27 => ?_) (fun h27 => ?_)
      · refine ks_K_set_35 <| ks_K_set_38 (Nat.le_of_ble_eq_true rfl) ?_
        refine kt_K_isWithin ?_
        refine ks_K_set_41 (fun h41 => ?_) (fun h41 => ?_)
        · have hx := of_decide_eq_true (kq_b_t h41)
          refine ks_K_set_50 <| ks_K_set_51 <| ks_K_set_52 (fun h52 => ?_) (fun h52 => ?_)
          · refine ks_K_set_65 <| ks_K_set_66 <| ks_K_set_67 (fun h67 => ?_) (fun h67 => ?_)
            · exfalso
              have e1 : ¬ a.toInt = 1 := fun q => h52 ((ki_eq _ _).mpr q)
              have e2 : ¬ a.toInt = 2 := fun q => h67 ((ki_eq _ _).mpr q)
              have e3 : ¬ a.toInt = 3 := fun q => h27 ((ki_eq _ _).mpr q)
              omega
            · rw [if_neg (fun q => h52 q.1), if_pos ⟨h67, hx⟩] at k
              refine ks_K_set_70 <| ks_K_set_71 <| ks_K_set_74 (by first | rfl | assumption) <| ks_K_set_77 ?_
              exact wr 4 (by omega) k
          · rw [if_pos ⟨h52, hx⟩] at k
            refine ks_K_set_55 <| ks_K_set_56 <| ks_K_set_59 (by first | rfl | assumption) <| ks_K_set_62 ?_
            exact wr 3 (by omega) k
        · have hx := of_decide_eq_false (kq_b_f h41)
          exact fn (by rw [if_neg (fun q => hx q.2), if_neg (fun q => hx q.2), if_neg (fun q => h27 q.1)])
      · refine ks_K_set_30 <| ks_K_set_32 <| ks_K_set_38 (Nat.le_of_ble_eq_true rfl) ?_
        refine kt_K_isWithin ?_
        refine ks_K_set_41 (fun h41 => ?_) (fun h41 => ?_)
        · have hx := of_decide_eq_true (kq_b_t h41)
          rw [if_neg (fun q => by rw [h27] at q; exact absurd q.1 (by decide)), if_neg (fun q => by rw [h27] at q; exact absurd q.1 (by decide)), if_pos ⟨h27, hx⟩] at k
          refine ks_K_set_50 <| ks_K_set_51 <| ks_K_set_52 (fun h52 => ?_) (fun h52 => ?_)
          · refine ks_K_set_65 <| ks_K_set_66 <| ks_K_set_67 (fun h67 => ?_) (fun h67 => ?_)
            · refine ks_K_set_80 <| ks_K_set_81 <| ks_K_set_84 (by first | rfl | assumption) ?_
              exact wr 5 (by omega) k
            · rw [h27] at h67; exact absurd h67 (by decide)
          · rw [h27] at h52; exact absurd h52 (by decide)
        · have hx := of_decide_eq_false (kq_b_f h41)
          exact fn (by rw [if_neg (fun q => by rw [h27] at q; exact absurd q.1 (by decide)), if_neg (fun q => by rw [h27] at q; exact absurd q.1 (by decide)), if_neg (fun q => hx q.2)])
    · have h13 := of_decide_eq_false (kq_b_f h14)
      have n1 : ∀ y : Int32, 1 ≤ y.toInt → y.toInt ≤ 3 → ¬ a = y := fun y q1 q2 q => h13 (by rw [q, ki_le, ki_le, ki_1, ki_3]; exact ⟨q1, q2⟩)
      rw [if_neg (fun q => n1 1 (by decide) (by decide) q.1), if_neg (fun q => n1 2 (by decide) (by decide) q.1), if_neg (fun q => n1 3 (by decide) (by decide) q.1)] at k
      refine ks_K_set_17 <| ks_K_set_18 <| ks_K_set_19 (Nat.le_of_ble_eq_true rfl) ?_
      refine kt_K_fin 0 ha (by decide) (fun μ' a1 f1 => ?_)
      refine ks_K_set_22 ?_
      exact k μ' a1 f1
theorem ko_K_kind (hz : kz_ok z) : kK_ct km_K_kind [kq_I w, kq_I n] z (sp_kind z w n).2 (kq_I (sp_kind z w n).1) := by
  intro μ Q ha k
  have hv := hz.1.1
  have hm := hz.1.2
  have fin : (sp_kind z w n = kz_F z 0) → kq_S km_K_kind 11 18 [some (kq_R 0 0), some (kq_I w), some (kq_I n), none, none, none, none] [] μ Q := by
    intro e
    rw [e] at k
    refine ks_K_kind_18 <| ks_K_kind_19 <| ks_K_kind_20 (Nat.le_of_ble_eq_true rfl) ?_
    refine kt_K_fin 0 ha (by decide) (fun μ' a1 f1 => ?_)
    refine ks_K_kind_23 ?_
    exact k μ' a1 f1
  refine ke_K_kind ?_
  refine ks_K_kind_0 <| ks_K_kind_1 <| ks_K_kind_2 (Nat.le_of_ble_eq_true rfl) ?_
  refine kt_K_isWitness ha hv ?_
  refine ks_K_kind_5 (fun h5 => ?_) (fun h5 => ?_)
  · have h := kq_b_f h5
    exact fin (if_pos (fun q => by rw [h] at q; cases q.1))
  · have hw := kq_b_t h5
    refine ks_K_kind_8 <| ks_K_kind_9 <| ks_K_kind_10 <| ks_K_kind_12 (Nat.le_of_ble_eq_true rfl) ?_
    refine kt_K_isWithin ?_
    refine ks_K_kind_15 (fun h15 => ?_) (fun h15 => ?_)
    · have hn := of_decide_eq_true (kq_b_t h15)
      have e0 : sp_kind z w n = _ := if_neg (fun q => q ⟨hw, hn⟩)
      obtain ⟨p, hp, rfl⟩ := kn_of_le (c := 60) (by decide) (by decide) hn
      obtain ⟨q, hq, rfl⟩ := kh_wi_ix hv hw
      have hq8 : q < 8 := Nat.lt_of_lt_of_le hq hv.1
      rw [kh_nat_nI (by omega), kh_nat_nI (by omega)] at e0
      rw [e0] at k
      have loop : ∀ (j i : Nat) (b m : Int32) (o : Option kq_V) (μ1 : kq_M), i + j = 6 → kq_fr (kc_P 2) μ μ1 → kg_amin (fun y => kh_E (kh_pass p (kh_setk (kz_h z) q (nI y)))) j i b m = kg_amin (fun y => kh_E (kh_pass p (kh_setk (kz_h z) q (nI y)))) 6 0 0 10000 → kq_S km_K_kind 11 34 [some (kq_R 0 0), some (kq_I (nI q)), some (kq_I (nI p)), some (kq_I b), some (kq_I m), some (kq_I (nI i)), o] [] μ1 Q := by
        intro j
        induction j with
        | zero =>
          intro i b m o μ1 hi f1 hg
          rw [← hg] at k
          refine ks_K_kind_34 <| ks_K_kind_36 <| ks_K_kind_38 (fun h38 => ?_) (fun h38 => ?_)
          · refine ks_K_kind_93 <| ks_K_kind_94 ?_
            exact k μ1 (ha.trial f1) (kK_frP (kK_fr2 f1))
          · exact absurd (show (6 : Int32) ≤ nI i by rw [ki_le, ki_6, nI_toInt (by omega)]; omega) h38
        | succ j ih =>
          intro i b m o μ1 hi f1 hg
          refine ks_K_kind_34 <| ks_K_kind_36 <| ks_K_kind_38 (fun h38 => ?_) (fun h38 => ?_)
          · rw [ki_le, ki_6, nI_toInt (by omega)] at h38
            omega
          · refine ks_K_kind_41 <| ks_K_kind_42 <| ks_K_kind_45 <| ks_K_kind_46 <| ks_K_kind_49 (by first | rfl | assumption) (Nat.le_of_ble_eq_true rfl) ?_
            refine kt_H_become rfl rfl (by decide) (ha.trial f1).h hv (fun μ2 a2 f2 => ?_)
            refine ks_K_kind_52 <| ks_K_kind_53 <| ks_K_kind_56 (by first | rfl | assumption) <| ks_K_kind_59 <| ks_K_kind_60 <| ks_K_kind_62n (by first | rfl | assumption) (by omega) <| ks_K_kind_63 <| ks_K_kind_64 <| ks_K_kind_67 <| ks_K_kind_68 (by first | rfl | assumption) (Nat.le_of_ble_eq_true rfl) ?_
            refine kt_H_teaAfter rfl a2.wk (kh_setk_ok hv (kh_in_of 5 (by omega) (by decide) ki_5)) (show kh_m (kz_h z) + p < 1000000 by omega) (fun μ3 a3 f3 => ?_)
            have f4 : kq_fr (kc_P 2) μ μ3 := ((f1.tr f2).wI (show kc_P 2 2 2 from ⟨rfl, by decide, by decide⟩)).tr f3
            refine ks_K_kind_71 rfl <| ks_K_kind_73 <| ks_K_kind_75 <| ks_K_kind_77 (fun h77 => ?_) (fun h77 => ?_)
            · refine ks_K_kind_87n rfl <| ks_K_kind_90 ?_
              refine ih (i + 1) b m _ μ3 (by omega) f4 ?_
              rw [← hg]
              show _ = if kh_E (kh_pass p (kh_setk (kz_h z) q (nI i))) < m then _ else _
              rw [if_neg (by rw [ki_lt]; rw [ki_le] at h77; omega)]
            · refine ks_K_kind_80 <| ks_K_kind_82 rfl <| ks_K_kind_84 <| ks_K_kind_86 rfl <| ks_K_kind_87n rfl <| ks_K_kind_90 ?_
              refine ih (i + 1) _ _ _ μ3 (by omega) f4 ?_
              rw [← hg]
              show _ = if kh_E (kh_pass p (kh_setk (kz_h z) q (nI i))) < m then _ else _
              rw [if_pos (by rw [ki_lt]; rw [ki_le] at h77; omega)]
      refine ks_K_kind_24 <| ks_K_kind_25 rfl <| ks_K_kind_26 <| ks_K_kind_29 rfl <| ks_K_kind_31 <| ks_K_kind_32 rfl ?_
      exact loop 6 0 0 10000 none μ rfl kq_fr.rf rfl
    · have h := of_decide_eq_false (kq_b_f h15)
      exact fin (if_pos (fun q => h q.2))
theorem ko_K_says (hz : kz_ok z) : kK_ct km_K_says [kq_I w, kq_I n] z (sp_says z w n).2 (kq_I (sp_says z w n).1) := by
  intro μ Q ha k
  have hv := hz.1.1
  have hm := hz.1.2
  have fin : (sp_says z w n = kz_F z 0) → kq_S km_K_says 11 18 [some (kq_R 0 0), some (kq_I w), some (kq_I n), none, none, none, none] [] μ Q := by
    intro e
    rw [e] at k
    refine ks_K_says_18 <| ks_K_says_19 <| ks_K_says_20 (Nat.le_of_ble_eq_true rfl) ?_
    refine kt_K_fin 0 ha (by decide) (fun μ' a1 f1 => ?_)
    refine ks_K_says_23 ?_
    exact k μ' a1 f1
  refine ke_K_says ?_
  refine ks_K_says_0 <| ks_K_says_1 <| ks_K_says_2 (Nat.le_of_ble_eq_true rfl) ?_
  refine kt_K_isWitness ha hv ?_
  refine ks_K_says_5 (fun h5 => ?_) (fun h5 => ?_)
  · have h := kq_b_f h5
    exact fin (if_pos (fun q => by rw [h] at q; cases q.1))
  · have hw := kq_b_t h5
    refine ks_K_says_8 <| ks_K_says_9 <| ks_K_says_10 <| ks_K_says_12 (Nat.le_of_ble_eq_true rfl) ?_
    refine kt_K_isWithin ?_
    refine ks_K_says_15 (fun h15 => ?_) (fun h15 => ?_)
    · have hn := of_decide_eq_true (kq_b_t h15)
      have e0 : sp_says z w n = _ := if_neg (fun q => q ⟨hw, hn⟩)
      obtain ⟨p, hp, rfl⟩ := kn_of_le (c := 20) (by decide) (by decide) hn
      obtain ⟨q, hq, rfl⟩ := kh_wi_ix hv hw
      have hq8 : q < 8 := Nat.lt_of_lt_of_le hq hv.1
      rw [kh_nat_nI (by omega), kh_nat_nI (by omega)] at e0
      rw [e0] at k
      have loop : ∀ (j i : Nat) (b m : Int32) (o : Option kq_V) (μ1 : kq_M), i + j = 256 → kq_fr (kc_P 2) μ μ1 → kg_amin (fun y => kh_E (kh_pass p (kh_sets (kz_h z) q (nI y)))) j i b m = kg_amin (fun y => kh_E (kh_pass p (kh_sets (kz_h z) q (nI y)))) 256 0 0 10000 → kq_S km_K_says 11 34 [some (kq_R 0 0), some (kq_I (nI q)), some (kq_I (nI p)), some (kq_I b), some (kq_I m), some (kq_I (nI i)), o] [] μ1 Q := by
        intro j
        induction j with
        | zero =>
          intro i b m o μ1 hi f1 hg
          rw [← hg] at k
          refine ks_K_says_34 <| ks_K_says_36 <| ks_K_says_39 (fun h39 => ?_) (fun h39 => ?_)
          · refine ks_K_says_94 <| ks_K_says_95 ?_
            exact k μ1 (ha.trial f1) (kK_frP (kK_fr2 f1))
          · exact absurd (show (255 : Int32) < nI i by rw [ki_lt, ki_255, nI_toInt (by omega)]; omega) h39
        | succ j ih =>
          intro i b m o μ1 hi f1 hg
          refine ks_K_says_34 <| ks_K_says_36 <| ks_K_says_39 (fun h39 => ?_) (fun h39 => ?_)
          · rw [ki_lt, ki_255, nI_toInt (by omega)] at h39
            omega
          · refine ks_K_says_42 <| ks_K_says_43 <| ks_K_says_46 <| ks_K_says_47 <| ks_K_says_50 (by first | rfl | assumption) (Nat.le_of_ble_eq_true rfl) ?_
            refine kt_H_become rfl rfl (by decide) (ha.trial f1).h hv (fun μ2 a2 f2 => ?_)
            refine ks_K_says_53 <| ks_K_says_54 <| ks_K_says_57 (by first | rfl | assumption) <| ks_K_says_60 <| ks_K_says_61 <| ks_K_says_63n (by first | rfl | assumption) (by omega) <| ks_K_says_64 <| ks_K_says_65 <| ks_K_says_68 <| ks_K_says_69 (by first | rfl | assumption) (Nat.le_of_ble_eq_true rfl) ?_
            refine kt_H_teaAfter rfl a2.ws (kh_sets_ok hv (kh_in_of 255 (by omega) (by decide) ki_255)) (show kh_m (kz_h z) + p < 1000000 by omega) (fun μ3 a3 f3 => ?_)
            have f4 : kq_fr (kc_P 2) μ μ3 := ((f1.tr f2).wI (show kc_P 2 2 4 from ⟨rfl, by decide, by decide⟩)).tr f3
            refine ks_K_says_72 rfl <| ks_K_says_74 <| ks_K_says_76 <| ks_K_says_78 (fun h78 => ?_) (fun h78 => ?_)
            · refine ks_K_says_88n rfl <| ks_K_says_91 ?_
              refine ih (i + 1) b m _ μ3 (by omega) f4 ?_
              rw [← hg]
              show _ = if kh_E (kh_pass p (kh_sets (kz_h z) q (nI i))) < m then _ else _
              rw [if_neg (by rw [ki_lt]; rw [ki_le] at h78; omega)]
            · refine ks_K_says_81 <| ks_K_says_83 rfl <| ks_K_says_85 <| ks_K_says_87 rfl <| ks_K_says_88n rfl <| ks_K_says_91 ?_
              refine ih (i + 1) _ _ _ μ3 (by omega) f4 ?_
              rw [← hg]
              show _ = if kh_E (kh_pass p (kh_sets (kz_h z) q (nI i))) < m then _ else _
              rw [if_pos (by rw [ki_lt]; rw [ki_le] at h78; omega)]
      refine ks_K_says_24 <| ks_K_says_25 rfl <| ks_K_says_26 <| ks_K_says_29 rfl <| ks_K_says_31 <| ks_K_says_32 rfl ?_
      exact loop 256 0 0 10000 none μ rfl kq_fr.rf rfl
    · have h := of_decide_eq_false (kq_b_f h15)
      exact fin (if_pos (fun q => h q.2))
theorem ko_K_fact (hz : kz_ok z) : kK_ct km_K_fact [kq_I n] z (sp_fact z n).2 (kq_I (sp_fact z n).1) := by
  intro μ Q ha k
  have hv := hz.1.1
  have hm := hz.1.2
  refine ke_K_fact ?_
  refine ks_K_fact_0 <| ks_K_fact_1 <| ks_K_fact_2 <| ks_K_fact_4 (Nat.le_of_ble_eq_true rfl) ?_
  refine kt_K_isWithin ?_
  refine ks_K_fact_7 (fun h7 => ?_) (fun h7 => ?_)
  · have hn := of_decide_eq_true (kq_b_t h7)
    have e0 : sp_fact z n = _ := if_neg (fun q => q hn)
    obtain ⟨p, hp, rfl⟩ := kn_of_le (c := 60) (by decide) (by decide) hn
    rw [kh_nat_nI (by omega)] at e0
    rw [e0] at k
    have loop : ∀ (j i : Nat) (b m : Int32) (o : Option kq_V) (μ1 : kq_M), i + j = 8 → kq_fr (kc_P 2) μ μ1 → kg_amax (fun f => kh_E (kh_pass p (kh_setT (kz_h z) (kh_T (kz_h z) ^^^ ((1 : Int32) <<< (nI f &&& 31)))))) j i b m = kg_amax (fun f => kh_E (kh_pass p (kh_setT (kz_h z) (kh_T (kz_h z) ^^^ ((1 : Int32) <<< (nI f &&& 31)))))) 8 0 0 (-1) → kq_S km_K_fact 11 23 [some (kq_R 0 0), some (kq_I (nI p)), some (kq_I b), some (kq_I m), some (kq_I (nI i)), o] [] μ1 Q := by
      intro j
      induction j with
      | zero =>
        intro i b m o μ1 hi f1 hg
        rw [← hg] at k
        refine ks_K_fact_23 <| ks_K_fact_25 <| ks_K_fact_27 (fun h27 => ?_) (fun h27 => ?_)
        · refine ks_K_fact_85 <| ks_K_fact_86 ?_
          exact k μ1 (ha.trial f1) (kK_frP (kK_fr2 f1))
        · exact absurd (show (8 : Int32) ≤ nI i by rw [ki_le, ki_8, nI_toInt (by omega)]; omega) h27
      | succ j ih =>
        intro i b m o μ1 hi f1 hg
        refine ks_K_fact_23 <| ks_K_fact_25 <| ks_K_fact_27 (fun h27 => ?_) (fun h27 => ?_)
        · rw [ki_le, ki_8, nI_toInt (by omega)] at h27
          omega
        · refine ks_K_fact_30 <| ks_K_fact_31 <| ks_K_fact_34 <| ks_K_fact_35 <| ks_K_fact_38 (by first | rfl | assumption) (Nat.le_of_ble_eq_true rfl) ?_
          refine kt_H_become rfl rfl (by decide) (ha.trial f1).h hv (fun μ2 a2 f2 => ?_)
          refine ks_K_fact_41 <| ks_K_fact_42 <| ks_K_fact_45 rfl <| ks_K_fact_46 (by first | rfl | assumption) <| ks_K_fact_49 <| ks_K_fact_50 <| ks_K_fact_52 <| ks_K_fact_53 <| ks_K_fact_54 (by first | rfl | assumption) <| ks_K_fact_57 <| ks_K_fact_58 <| ks_K_fact_61 <| ks_K_fact_62 (by first | rfl | assumption) (Nat.le_of_ble_eq_true rfl) ?_
          rw [a2.T]
          refine kt_H_teaAfter rfl a2.wT (kh_setT_ok hv (kh_xor255 hv.2.1 (by omega))) (show kh_m (kz_h z) + p < 1000000 by omega) (fun μ3 a3 f3 => ?_)
          have f4 : kq_fr (kc_P 2) μ μ3 := ((f1.tr f2).wI (show kc_P 2 2 1 from ⟨rfl, by decide, by decide⟩)).tr f3
          refine ks_K_fact_65 rfl <| ks_K_fact_67 <| ks_K_fact_69 <| ks_K_fact_70 (fun h70 => ?_) (fun h70 => ?_)
          · refine ks_K_fact_79n rfl <| ks_K_fact_82 ?_
            refine ih (i + 1) b m _ μ3 (by omega) f4 ?_
            rw [← hg]
            show _ = if m < kh_E (kh_pass p (kh_setT (kz_h z) (kh_T (kz_h z) ^^^ ((1 : Int32) <<< (nI i &&& 31))))) then _ else _
            rw [if_neg (by rw [ki_lt]; rw [ki_le] at h70; omega)]
          · refine ks_K_fact_73 <| ks_K_fact_75 rfl <| ks_K_fact_76 <| ks_K_fact_78 rfl <| ks_K_fact_79n rfl <| ks_K_fact_82 ?_
            refine ih (i + 1) _ _ _ μ3 (by omega) f4 ?_
            rw [← hg]
            show _ = if m < kh_E (kh_pass p (kh_setT (kz_h z) (kh_T (kz_h z) ^^^ ((1 : Int32) <<< (nI i &&& 31))))) then _ else _
            rw [if_pos (by rw [ki_lt]; rw [ki_le] at h70; omega)]
    refine ks_K_fact_16 <| ks_K_fact_17 rfl <| ks_K_fact_18 <| ks_K_fact_19 rfl <| ks_K_fact_20 <| ks_K_fact_21 rfl ?_
    exact loop 8 0 0 (-1) none μ rfl kq_fr.rf rfl
  · have h := of_decide_eq_false (kq_b_f h7)
    rw [show sp_fact z n = _ from if_pos h] at k
    refine ks_K_fact_10 <| ks_K_fact_11 <| ks_K_fact_12 (Nat.le_of_ble_eq_true rfl) ?_
    refine kt_K_fin 0 ha (by decide) (fun μ' a1 f1 => ?_)
    refine ks_K_fact_15 ?_
    exact k μ' a1 f1
theorem ko_K_turns (hz : kz_ok z) : kK_ct km_K_turns [kq_I n] z (sp_turns z n).2 (kq_I (sp_turns z n).1) := by
  intro μ Q ha k
  have hv := hz.1.1
  have hm := hz.1.2
  have hc8 := hv.1
  refine ke_K_turns ?_
  refine ks_K_turns_0 <| ks_K_turns_1 <| ks_K_turns_2 <| ks_K_turns_4 (Nat.le_of_ble_eq_true rfl) ?_
  refine kt_K_isWithin ?_
  refine ks_K_turns_7 (fun h7 => ?_) (fun h7 => ?_)
  · have hn := of_decide_eq_true (kq_b_t h7)
    have e0 : sp_turns z n = _ := if_neg (fun q => q hn)
    obtain ⟨p, hp, rfl⟩ := kn_of_le (c := 60) (by decide) (by decide) hn
    rw [kh_nat_nI (by omega)] at e0
    rw [e0] at k
    generalize hG : (fun w o => kh_E (kh_pass p (kh_swap (kz_h z) w o))) = G at k
    have gG : ∀ w o, kh_E (kh_pass p (kh_swap (kz_h z) w o)) = G w o := fun w o => by rw [← hG]
    have fin : ∀ (b m : Int32) (o4 o5 o6 : Option kq_V) (μ1 : kq_M), kq_fr (kc_P 2) μ μ1 → b = kg_tout G (kh_c (kz_h z)) (kh_c (kz_h z)) 0 (-1) (kh_E (kh_pass p (kz_h z))) → kq_S km_K_turns 11 133 [some (kq_R 0 0), some (kq_I (nI p)), some (kq_I m), some (kq_I b), o4, o5, o6] [] μ1 Q := by
      intro b m o4 o5 o6 μ1 f1 hb
      rw [← hb] at k
      refine ks_K_turns_133 <| ks_K_turns_134 (fun h134 => ?_) (fun h134 => ?_)
      · rw [if_neg (by rw [ki_lt, ki_0]; rw [ki_le, ki_0] at h134; omega)] at k
        refine ks_K_turns_145 <| ks_K_turns_146 ?_
        exact k μ1 (ha.trial f1) (kK_frP (kK_fr2 f1))
      · rw [if_pos (by rw [ki_lt, ki_0]; rw [ki_le, ki_0] at h134; omega)] at k
        refine ks_K_turns_137 <| ks_K_turns_138 <| ks_K_turns_139 (Nat.le_of_ble_eq_true rfl) ?_
        refine kt_K_fin 3 (ha.trial f1) (by decide) (fun μ' a2 f2 => ?_)
        refine ks_K_turns_142 <| ks_K_turns_146 ?_
        exact k μ' a2 ((kK_frP (kK_fr2 f1)).tr f2)
    have loop : ∀ (j i : Nat) (b m : Int32) (o5 o6 : Option kq_V) (μ1 : kq_M), i + j = kh_c (kz_h z) → kq_fr (kc_P 2) μ μ1 → kg_tout G (kh_c (kz_h z)) j i b m = kg_tout G (kh_c (kz_h z)) (kh_c (kz_h z)) 0 (-1) (kh_E (kh_pass p (kz_h z))) → kq_S km_K_turns 11 41 [some (kq_R 0 0), some (kq_I (nI p)), some (kq_I m), some (kq_I b), some (kq_I (nI i)), o5, o6] [] μ1 Q := by
      intro j
      induction j with
      | zero =>
        intro i b m o5 o6 μ1 hi f1 hg
        refine ks_K_turns_41 <| ks_K_turns_43 <| ks_K_turns_44 <| ks_K_turns_47 (by first | rfl | assumption) <| ks_K_turns_50 (fun h50 => ?_) (fun h50 => ?_)
        · exact fin b m _ _ _ μ1 f1 hg
        · rw [(ha.trial f1).h.c] at h50
          exact absurd (nI_le (show kh_c (kz_h z) ≤ i by omega) (by omega)) h50
      | succ j ih =>
        intro i b m o5 o6 μ1 hi f1 hg
        have inner : ∀ (j2 i2 : Nat) (b2 m2 : Int32) (o6 : Option kq_V) (μ2 : kq_M), i < i2 → i2 + j2 = kh_c (kz_h z) → kq_fr (kc_P 2) μ μ2 → kg_tin G i j2 i2 b2 m2 = kg_tin G i (kh_c (kz_h z) - (i + 1)) (i + 1) b m → kq_S km_K_turns 11 59 [some (kq_R 0 0), some (kq_I (nI p)), some (kq_I m2), some (kq_I b2), some (kq_I (nI i)), some (kq_I (nI i2)), o6] [] μ2 Q := by
          intro j2
          induction j2 with
          | zero =>
            intro i2 b2 m2 o6 μ2 hlt hi2 f2 hg2
            refine ks_K_turns_59 <| ks_K_turns_61 <| ks_K_turns_62 <| ks_K_turns_65 (by first | rfl | assumption) <| ks_K_turns_68 (fun h68 => ?_) (fun h68 => ?_)
            · refine ks_K_turns_127n rfl <| ks_K_turns_130 ?_
              refine ih (i + 1) b2 m2 _ _ μ2 (by omega) f2 ?_
              rw [← hg]
              show _ = kg_tout G (kh_c (kz_h z)) j (i + 1) (kg_tin G i (kh_c (kz_h z) - (i + 1)) (i + 1) b m).1 (kg_tin G i (kh_c (kz_h z) - (i + 1)) (i + 1) b m).2
              rw [← hg2]
              rfl
            · rw [(ha.trial f2).h.c] at h68
              exact absurd (nI_le (show kh_c (kz_h z) ≤ i2 by omega) (by omega)) h68
          | succ j2 ih2 =>
            intro i2 b2 m2 o6 μ2 hlt hi2 f2 hg2
            have hia : i < kh_c (kz_h z) := by omega
            have hib : i2 < kh_c (kz_h z) := by omega
            refine ks_K_turns_59 <| ks_K_turns_61 <| ks_K_turns_62 <| ks_K_turns_65 (by first | rfl | assumption) <| ks_K_turns_68 (fun h68 => ?_) (fun h68 => ?_)
            · rw [(ha.trial f2).h.c] at h68
              exact absurd h68 (nI_ge hib (by omega))
            · refine ks_K_turns_71 <| ks_K_turns_72 <| ks_K_turns_75 <| ks_K_turns_76 <| ks_K_turns_79 (by first | rfl | assumption) (Nat.le_of_ble_eq_true rfl) ?_
              refine kt_H_become rfl rfl (by decide) (ha.trial f2).h hv (fun μ3 a3 f3 => ?_)
              refine ks_K_turns_82 <| ks_K_turns_83 <| ks_K_turns_86 <| ks_K_turns_88 <| ks_K_turns_90 (by first | rfl | assumption) (Nat.le_of_ble_eq_true rfl) ?_
              refine kt_H_changeNumbers rfl a3 hv hia hib (fun μ4 a4 f4 => ?_)
              refine ks_K_turns_93 <| ks_K_turns_94 <| ks_K_turns_97 <| ks_K_turns_98 (by first | rfl | assumption) (Nat.le_of_ble_eq_true rfl) ?_
              refine kt_H_teaAfter rfl a4 (kh_swap_ok hv hia hib) (show kh_m (kz_h z) + p < 1000000 by omega) (fun μ5 a5 f5 => ?_)
              rw [gG]
              have f6 := ((f2.tr f3).tr f4).tr f5
              refine ks_K_turns_101 rfl <| ks_K_turns_103 <| ks_K_turns_105 <| ks_K_turns_106 (fun h106 => ?_) (fun h106 => ?_)
              · refine ks_K_turns_121n rfl <| ks_K_turns_124 ?_
                refine ih2 (i2 + 1) b2 m2 _ μ5 (by omega) (by omega) f6 ?_
                rw [← hg2]
                show _ = if m2 < G i i2 then _ else _
                rw [if_neg (by rw [ki_lt]; rw [ki_le] at h106; omega)]
              · refine ks_K_turns_109 <| ks_K_turns_111 rfl <| ks_K_turns_112 <| ks_K_turns_114 <| ks_K_turns_116 <| ks_K_turns_117 <| ks_K_turns_119 <| ks_K_turns_120 rfl <| ks_K_turns_121n rfl <| ks_K_turns_124 ?_
                refine ih2 (i2 + 1) _ _ _ μ5 (by omega) (by omega) f6 ?_
                rw [← hg2]
                show _ = if m2 < G i i2 then _ else _
                rw [if_pos (by rw [ki_lt]; rw [ki_le] at h106; omega)]
        refine ks_K_turns_41 <| ks_K_turns_43 <| ks_K_turns_44 <| ks_K_turns_47 (by first | rfl | assumption) <| ks_K_turns_50 (fun h50 => ?_) (fun h50 => ?_)
        · rw [(ha.trial f1).h.c] at h50
          exact absurd h50 (nI_ge (show i < kh_c (kz_h z) by omega) (by omega))
        · refine ks_K_turns_53 <| ks_K_turns_55 <| ks_K_turns_56 <| ks_K_turns_57 rfl ?_
          rw [nI_1]
          exact inner (kh_c (kz_h z) - (i + 1)) (i + 1) b m _ μ1 (by omega) (by omega) f1 rfl
    refine ks_K_turns_16 <| ks_K_turns_17 <| ks_K_turns_20 <| ks_K_turns_21 <| ks_K_turns_24 (by first | rfl | assumption) (Nat.le_of_ble_eq_true rfl) ?_
    refine kt_H_become rfl rfl (by decide) ha.h hv (fun μ1 a1 f1 => ?_)
    refine ks_K_turns_27 <| ks_K_turns_28 <| ks_K_turns_31 <| ks_K_turns_32 (by first | rfl | assumption) (Nat.le_of_ble_eq_true rfl) ?_
    refine kt_H_teaAfter rfl a1 hv (by omega) (fun μ2 a2 f2 => ?_)
    refine ks_K_turns_35 rfl <| ks_K_turns_36 <| ks_K_turns_37 rfl <| ks_K_turns_38 <| ks_K_turns_39 rfl ?_
    exact loop (kh_c (kz_h z)) 0 (-1) _ none none μ2 (by omega) (f1.tr f2) rfl
  · have h := of_decide_eq_false (kq_b_f h7)
    rw [show sp_turns z n = _ from if_pos h] at k
    refine ks_K_turns_10 <| ks_K_turns_11 <| ks_K_turns_12 (Nat.le_of_ble_eq_true rfl) ?_
    refine kt_K_fin 0 ha (by decide) (fun μ' a1 f1 => ?_)
    refine ks_K_turns_15 ?_
    exact k μ' a1 f1
end KO3
