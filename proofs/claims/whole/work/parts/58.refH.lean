/-! THE REFERENCE: its calls (5): what is best -/
section KM8
variable {z : kz_S} {w a x n s f : Int32}
theorem ko_M_kind (hz : kz_ok z) : kM_ct km_M_kind [kq_I w, kq_I n] z (sp_kind z w n).2 (kq_I (sp_kind z w n).1) := by
  intro μ Q ha k
  have hv := hz.1.1
  have hc8 := hv.1
  have hm := hz.1.2
  have no : ¬ (kh_wi (kz_h z) w = true ∧ 1 ≤ n ∧ n ≤ 60) → kq_S km_M_kind 11 18 [some (kq_R 0 20), some (kq_I w), some (kq_I n), none, none, none, none] [] μ Q := by
    intro h
    rw [show sp_kind z w n = kz_F z 0 from if_pos h] at k
    refine ks_M_kind_18 <| ks_M_kind_19 <| ks_M_kind_21 (Nat.le_of_ble_eq_true rfl) ?_
    refine kt_M_fin 0 ha (by decide) (by decide) (fun μ' a1 f1 => ?_)
    refine ks_M_kind_24 ?_
    exact k μ' a1 f1
  refine ke_M_kind ?_
  refine ks_M_kind_0 <| ks_M_kind_1 <| ks_M_kind_2 (Nat.le_of_ble_eq_true rfl) ?_
  refine kt_M_isOne ha.h hv ?_
  refine ks_M_kind_5 (fun h5 => ?_) (fun h5 => ?_)
  · exact no (fun q => by rw [kq_b_f h5] at q; exact absurd q.1 (by decide))
  · have hw := kq_b_t h5
    refine ks_M_kind_8 <| ks_M_kind_9 <| ks_M_kind_10 <| ks_M_kind_12 (Nat.le_of_ble_eq_true rfl) ?_
    refine kt_M_in ?_
    refine ks_M_kind_15 (fun h15 => ?_) (fun h15 => ?_)
    · have h := of_decide_eq_true (kq_b_t h15)
      have e0 : sp_kind z w n = _ := if_neg (fun q => q ⟨hw, h⟩)
      obtain ⟨y, hy, rfl⟩ := kh_wi_ix hv hw
      obtain ⟨j, hj, rfl⟩ := kn_of_le (c := 60) (by decide) (by decide) h
      rw [kh_nat_nI (show j < 2 ^ 31 by omega), kh_nat_nI (show y < 2 ^ 31 by omega)] at e0
      rw [e0] at k
      generalize hG : (fun i => kh_E (kh_pass j (kh_setk (kz_h z) y (nI i)))) = G at k
      have hGi : ∀ i, kh_E (kh_pass j (kh_setk (kz_h z) y (nI i))) = G i := fun i => by rw [← hG]
      have loop : ∀ (q i : Nat) (b m : Int32) (μ1 : kq_M) (o : Option kq_V), i + q = 6 → kr_at μ1 21 (kz_h z) → kr_at μ1 23 (kz_h z) → kM_h μ μ1 → kg_amin G q i b m = kg_amin G 6 0 0 10000 → kq_S km_M_kind 11 44 [some (kq_R 0 20), some (kq_I (nI y)), some (kq_I (nI j)), some (kq_I b), some (kq_I m), some (kq_I (nI i)), o] [] μ1 Q := by
        intro q
        induction q with
        | zero =>
          intro i b m μ1 o hi a1 t1 f1 e
          rw [← e] at k
          refine ks_M_kind_44 <| ks_M_kind_46 <| ks_M_kind_47 (fun h47 => ?_) (fun h47 => ?_)
          · refine ks_M_kind_101 <| ks_M_kind_102 ?_
            exact k μ1 (ha.hall a1 f1) f1.P
          · rw [ki_lt, ki_5, nI_toInt (by omega)] at h47
            omega
        | succ q ih =>
          intro i b m μ1 o hi a1 t1 f1 e
          have e1 : kg_amin G (q + 1) i b m = if G i < m then kg_amin G q (i + 1) (nI i) (G i) else kg_amin G q (i + 1) b m := rfl
          refine ks_M_kind_44 <| ks_M_kind_46 <| ks_M_kind_47 (fun h47 => ?_) (fun h47 => ?_)
          · rw [ki_lt, ki_5, nI_toInt (by omega)] at h47
            omega
          · refine ks_M_kind_50 <| ks_M_kind_51 <| ks_M_kind_52 <| ks_M_kind_53 <| ks_M_kind_55 (Nat.le_of_ble_eq_true rfl) ?_
            refine kt_M_puts (q := 0) (by omega) (by decide) ?_
            refine ks_M_kind_58 <| ks_M_kind_59 <| ks_M_kind_60 (Nat.le_of_ble_eq_true rfl) ?_
            refine kt_M_teaBehind (a1.wk (w0 := y) (x := nI i)) (kh_setk_ok hv (kh_in_of 5 (by omega) (by decide) (by decide))) (by show kh_m (kz_h z) + _ < _; omega) (v0 := kz_h z) ?_ hc8 (fun μ3 a3 t3 f3 => ?_)
            · exact t1.fr (P := fun a b => a = 0 ∧ b = 21) (kq_fr.rf.wI ⟨rfl, rfl⟩) (fun q => by cases q.2)
            have f4 := (f1.row).tr f3.h
            rw [hGi]
            refine ks_M_kind_63 rfl <| ks_M_kind_65 <| ks_M_kind_67 <| ks_M_kind_69 (fun h69 => ?_) (fun h69 => ?_)
            · rw [if_neg (by rw [ki_le] at h69; rw [ki_lt]; omega)] at e1
              refine ks_M_kind_77 <| ks_M_kind_78 rfl <| ks_M_kind_79 <| ks_M_kind_81 <| ks_M_kind_83 (fun h83 => ?_) (fun h83 => ?_)
              · refine ks_M_kind_91 <| ks_M_kind_93 rfl <| ks_M_kind_95n rfl <| ks_M_kind_98 ?_
                exact ih (i + 1) b m μ3 _ (by omega) a3 t3 f4 (e1.symm.trans e)
              · exact absurd h69 h83
            · rw [if_pos (by rw [ki_le] at h69; rw [ki_lt]; omega)] at e1
              refine ks_M_kind_72 <| ks_M_kind_74 <| ks_M_kind_78 rfl <| ks_M_kind_79 <| ks_M_kind_81 <| ks_M_kind_83 (fun h83 => ?_) (fun h83 => ?_)
              · exact absurd h83 h69
              · refine ks_M_kind_86 <| ks_M_kind_88 <| ks_M_kind_93 rfl <| ks_M_kind_95n rfl <| ks_M_kind_98 ?_
                exact ih (i + 1) (nI i) (G i) μ3 _ (by omega) a3 t3 f4 (e1.symm.trans e)
      refine ks_M_kind_25 <| ks_M_kind_26 rfl <| ks_M_kind_27 <| ks_M_kind_30 rfl <| ks_M_kind_32 <| ks_M_kind_33 <| ks_M_kind_34 <| ks_M_kind_35 <| ks_M_kind_38 (Nat.le_of_ble_eq_true rfl) ?_
      refine kt_M_try ha.h hc8 (fun μ1 a1 t1 f1 => ?_)
      refine ks_M_kind_41 <| ks_M_kind_42 rfl ?_
      exact loop 6 0 0 10000 μ1 none rfl a1 t1 f1 rfl
    · exact no (fun q => of_decide_eq_false (kq_b_f h15) q.2)
theorem ko_M_says (hz : kz_ok z) : kM_ct km_M_says [kq_I w, kq_I n] z (sp_says z w n).2 (kq_I (sp_says z w n).1) := by
  intro μ Q ha k
  have hv := hz.1.1
  have hc8 := hv.1
  have hm := hz.1.2
  have no : ¬ (kh_wi (kz_h z) w = true ∧ 1 ≤ n ∧ n ≤ 20) → kq_S km_M_says 11 18 [some (kq_R 0 20), some (kq_I w), some (kq_I n), none, none, none, none] [] μ Q := by
    intro h
    rw [show sp_says z w n = kz_F z 0 from if_pos h] at k
    refine ks_M_says_18 <| ks_M_says_19 <| ks_M_says_21 (Nat.le_of_ble_eq_true rfl) ?_
    refine kt_M_fin 0 ha (by decide) (by decide) (fun μ' a1 f1 => ?_)
    refine ks_M_says_24 ?_
    exact k μ' a1 f1
  refine ke_M_says ?_
  refine ks_M_says_0 <| ks_M_says_1 <| ks_M_says_2 (Nat.le_of_ble_eq_true rfl) ?_
  refine kt_M_isOne ha.h hv ?_
  refine ks_M_says_5 (fun h5 => ?_) (fun h5 => ?_)
  · exact no (fun q => by rw [kq_b_f h5] at q; exact absurd q.1 (by decide))
  · have hw := kq_b_t h5
    refine ks_M_says_8 <| ks_M_says_9 <| ks_M_says_10 <| ks_M_says_12 (Nat.le_of_ble_eq_true rfl) ?_
    refine kt_M_in ?_
    refine ks_M_says_15 (fun h15 => ?_) (fun h15 => ?_)
    · have h := of_decide_eq_true (kq_b_t h15)
      have e0 : sp_says z w n = _ := if_neg (fun q => q ⟨hw, h⟩)
      obtain ⟨y, hy, rfl⟩ := kh_wi_ix hv hw
      obtain ⟨j, hj, rfl⟩ := kn_of_le (c := 20) (by decide) (by decide) h
      rw [kh_nat_nI (show j < 2 ^ 31 by omega), kh_nat_nI (show y < 2 ^ 31 by omega)] at e0
      rw [e0] at k
      generalize hG : (fun i => kh_E (kh_pass j (kh_sets (kz_h z) y (nI i)))) = G at k
      have hGi : ∀ i, kh_E (kh_pass j (kh_sets (kz_h z) y (nI i))) = G i := fun i => by rw [← hG]
      have loop : ∀ (q i : Nat) (b m : Int32) (μ1 : kq_M) (o : Option kq_V), i + q = 256 → kr_at μ1 21 (kz_h z) → kr_at μ1 23 (kz_h z) → kM_h μ μ1 → kg_amin G q i b m = kg_amin G 256 0 0 10000 → kq_S km_M_says 11 44 [some (kq_R 0 20), some (kq_I (nI y)), some (kq_I (nI j)), some (kq_I b), some (kq_I m), some (kq_I (nI i)), o] [] μ1 Q := by
        intro q
        induction q with
        | zero =>
          intro i b m μ1 o hi a1 t1 f1 e
          rw [← e] at k
          refine ks_M_says_44 <| ks_M_says_46 <| ks_M_says_49 (fun h49 => ?_) (fun h49 => ?_)
          · refine ks_M_says_103 <| ks_M_says_104 ?_
            exact k μ1 (ha.hall a1 f1) f1.P
          · rw [ki_lt, ki_255, nI_toInt (by omega)] at h49
            omega
        | succ q ih =>
          intro i b m μ1 o hi a1 t1 f1 e
          have e1 : kg_amin G (q + 1) i b m = if G i < m then kg_amin G q (i + 1) (nI i) (G i) else kg_amin G q (i + 1) b m := rfl
          refine ks_M_says_44 <| ks_M_says_46 <| ks_M_says_49 (fun h49 => ?_) (fun h49 => ?_)
          · rw [ki_lt, ki_255, nI_toInt (by omega)] at h49
            omega
          · refine ks_M_says_52 <| ks_M_says_53 <| ks_M_says_54 <| ks_M_says_55 <| ks_M_says_57 (Nat.le_of_ble_eq_true rfl) ?_
            refine kt_M_puts (q := 2) (by omega) (by decide) ?_
            refine ks_M_says_60 <| ks_M_says_61 <| ks_M_says_62 (Nat.le_of_ble_eq_true rfl) ?_
            refine kt_M_teaBehind (a1.ws (w0 := y) (x := nI i)) (kh_sets_ok hv (kh_in_of 255 (by omega) (by decide) (by decide))) (by show kh_m (kz_h z) + _ < _; omega) (v0 := kz_h z) ?_ hc8 (fun μ3 a3 t3 f3 => ?_)
            · exact t1.fr (P := fun a b => a = 0 ∧ b = 21) (kq_fr.rf.wI ⟨rfl, rfl⟩) (fun q => by cases q.2)
            have f4 := (f1.row).tr f3.h
            rw [hGi]
            refine ks_M_says_65 rfl <| ks_M_says_67 <| ks_M_says_69 <| ks_M_says_71 (fun h71 => ?_) (fun h71 => ?_)
            · rw [if_neg (by rw [ki_le] at h71; rw [ki_lt]; omega)] at e1
              refine ks_M_says_79 <| ks_M_says_80 rfl <| ks_M_says_81 <| ks_M_says_83 <| ks_M_says_85 (fun h85 => ?_) (fun h85 => ?_)
              · refine ks_M_says_93 <| ks_M_says_95 rfl <| ks_M_says_97n rfl <| ks_M_says_100 ?_
                exact ih (i + 1) b m μ3 _ (by omega) a3 t3 f4 (e1.symm.trans e)
              · exact absurd h71 h85
            · rw [if_pos (by rw [ki_le] at h71; rw [ki_lt]; omega)] at e1
              refine ks_M_says_74 <| ks_M_says_76 <| ks_M_says_80 rfl <| ks_M_says_81 <| ks_M_says_83 <| ks_M_says_85 (fun h85 => ?_) (fun h85 => ?_)
              · exact absurd h85 h71
              · refine ks_M_says_88 <| ks_M_says_90 <| ks_M_says_95 rfl <| ks_M_says_97n rfl <| ks_M_says_100 ?_
                exact ih (i + 1) (nI i) (G i) μ3 _ (by omega) a3 t3 f4 (e1.symm.trans e)
      refine ks_M_says_25 <| ks_M_says_26 rfl <| ks_M_says_27 <| ks_M_says_30 rfl <| ks_M_says_32 <| ks_M_says_33 <| ks_M_says_34 <| ks_M_says_35 <| ks_M_says_38 (Nat.le_of_ble_eq_true rfl) ?_
      refine kt_M_try ha.h hc8 (fun μ1 a1 t1 f1 => ?_)
      refine ks_M_says_41 <| ks_M_says_42 rfl ?_
      exact loop 256 0 0 10000 μ1 none rfl a1 t1 f1 rfl
    · exact no (fun q => of_decide_eq_false (kq_b_f h15) q.2)
theorem ko_M_sure (hz : kz_ok z) : kM_ct km_M_sure [kq_I w, kq_I n] z (sp_sure z w n).2 (kq_I (sp_sure z w n).1) := by
  intro μ Q ha k
  have hv := hz.1.1
  have hc8 := hv.1
  have hm := hz.1.2
  have no : ¬ (kh_wi (kz_h z) w = true ∧ 1 ≤ n ∧ n ≤ 60) → kq_S km_M_sure 11 18 [some (kq_R 0 20), some (kq_I w), some (kq_I n), none, none] [] μ Q := by
    intro h
    rw [show sp_sure z w n = kz_F z 0 from if_pos h] at k
    refine ks_M_sure_18 <| ks_M_sure_19 <| ks_M_sure_21 (Nat.le_of_ble_eq_true rfl) ?_
    refine kt_M_fin 0 ha (by decide) (by decide) (fun μ' a1 f1 => ?_)
    refine ks_M_sure_24 ?_
    exact k μ' a1 f1
  refine ke_M_sure ?_
  refine ks_M_sure_0 <| ks_M_sure_1 <| ks_M_sure_2 (Nat.le_of_ble_eq_true rfl) ?_
  refine kt_M_isOne ha.h hv ?_
  refine ks_M_sure_5 (fun h5 => ?_) (fun h5 => ?_)
  · exact no (fun q => by rw [kq_b_f h5] at q; exact absurd q.1 (by decide))
  · have hw := kq_b_t h5
    refine ks_M_sure_8 <| ks_M_sure_9 <| ks_M_sure_10 <| ks_M_sure_12 (Nat.le_of_ble_eq_true rfl) ?_
    refine kt_M_in ?_
    refine ks_M_sure_15 (fun h15 => ?_) (fun h15 => ?_)
    · have h := of_decide_eq_true (kq_b_t h15)
      have e0 : sp_sure z w n = _ := if_neg (fun q => q ⟨hw, h⟩)
      obtain ⟨y, hy, rfl⟩ := kh_wi_ix hv hw
      obtain ⟨j, hj, rfl⟩ := kn_of_le (c := 60) (by decide) (by decide) h
      rw [kh_nat_nI (show j < 2 ^ 31 by omega), kh_nat_nI (show y < 2 ^ 31 by omega)] at e0
      rw [e0] at k
      generalize hG : (fun i => kh_E (kh_pass j (kh_setu (kz_h z) y (nI i)))) = G at k
      have hGi : ∀ i, kh_E (kh_pass j (kh_setu (kz_h z) y (nI i))) = G i := fun i => by rw [← hG]
      have out : ∀ (i : Nat) (b : Bool) (μ1 : kq_M), kr_at μ1 21 (kz_h z) → kM_h μ μ1 → kg_sd G (kh_E (kz_h z)) 10 = (if b = true then some i else none) → kq_S km_M_sure 11 83 [some (kq_R 0 20), some (kq_I (nI y)), some (kq_I (nI j)), some (kq_I (nI i)), some (kq_I (kq_b b))] [] μ1 Q := by
        intro i b μ1 a1 f1 e
        rw [e] at k
        have a2 : kM_at μ1 z := ha.hall a1 f1
        refine ks_M_sure_83 <| ks_M_sure_85 (fun h85 => ?_) (fun h85 => ?_)
        · rw [if_neg (by rw [kq_b_f h85]; decide)] at k
          refine ks_M_sure_92 <| ks_M_sure_93 <| ks_M_sure_95 (Nat.le_of_ble_eq_true rfl) ?_
          refine kt_M_fin 3 a2 (by decide) (by decide) (fun μ' a4 f4 => ?_)
          refine ks_M_sure_98 ?_
          exact k μ' a4 (f1.P.tr f4)
        · rw [if_pos (kq_b_t h85)] at k
          refine ks_M_sure_88 <| ks_M_sure_89 <| ks_M_sure_98 ?_
          exact k μ1 a2 f1.P
      have loop : ∀ (i : Nat) (μ1 : kq_M), i ≤ 10 → kr_at μ1 21 (kz_h z) → kr_at μ1 23 (kz_h z) → kM_h μ μ1 → kg_sd G (kh_E (kz_h z)) i = kg_sd G (kh_E (kz_h z)) 10 → kq_S km_M_sure 11 40 [some (kq_R 0 20), some (kq_I (nI y)), some (kq_I (nI j)), some (kq_I (nI i)), some (kq_I (kq_b false))] [] μ1 Q := by
        intro i
        induction i with
        | zero =>
          intro μ1 hi a1 t1 f1 e
          refine ks_M_sure_40 <| ks_M_sure_41 (fun h41 => ?_) (fun h41 => ?_)
          · exact out 0 false μ1 a1 f1 (e.symm.trans (by rw [if_neg (by decide)]; rfl))
          · exact absurd (by decide) h41
        | succ i ih =>
          intro μ1 hi a1 t1 f1 e
          have e1 : kg_sd G (kh_E (kz_h z)) (i + 1) = if G i ≤ kh_E (kz_h z) then some i else kg_sd G (kh_E (kz_h z)) i := rfl
          refine ks_M_sure_40 <| ks_M_sure_41 (fun h41 => ?_) (fun h41 => ?_)
          · rw [ki_le, ki_0, nI_toInt (by omega)] at h41
            omega
          · refine ks_M_sure_44 <| ks_M_sure_46 (fun h46 => ?_) (fun h46 => ?_)
            · exact absurd rfl h46
            · refine ks_M_sure_49n rfl <| ks_M_sure_52 <| ks_M_sure_53 <| ks_M_sure_54 <| ks_M_sure_55 <| ks_M_sure_56 (Nat.le_of_ble_eq_true rfl) ?_
              refine kt_M_puts (q := 3) (by omega) (by decide) ?_
              refine ks_M_sure_59 <| ks_M_sure_60 <| ks_M_sure_61 (Nat.le_of_ble_eq_true rfl) ?_
              refine kt_M_teaBehind (a1.wu (w0 := y) (x := nI i)) (kh_setu_ok hv (kh_in_of 9 (by omega) (by decide) (by decide))) (by show kh_m (kz_h z) + _ < _; omega) (v0 := kz_h z) ?_ hc8 (fun μ3 a3 t3 f3 => ?_)
              · exact t1.fr (P := fun a b => a = 0 ∧ b = 21) (kq_fr.rf.wI ⟨rfl, rfl⟩) (fun q => by cases q.2)
              have f4 := (f1.row).tr f3.h
              rw [hGi]
              refine ks_M_sure_64 <| ks_M_sure_65 <| ks_M_sure_68 <| ks_M_sure_69 <| ks_M_sure_70 (fun h70 => ?_) (fun h70 => ?_)
              · rw [t3.E] at h70
                rw [if_neg (by rw [ki_lt] at h70; rw [ki_le]; omega)] at e1
                refine ks_M_sure_77 <| ks_M_sure_78 rfl <| ks_M_sure_80 ?_
                exact ih μ3 (by omega) a3 t3 f4 (e1.symm.trans e)
              · rw [t3.E] at h70
                rw [if_pos (by rw [ki_lt] at h70; rw [ki_le]; omega)] at e1
                have g := out i true μ3 a3 f4 (e.symm.trans (e1.trans (by rw [if_pos rfl])))
                refine ks_M_sure_73 <| ks_M_sure_74 <| ks_M_sure_78 rfl <| ks_M_sure_80 ?_
                refine ks_M_sure_40 <| ks_M_sure_41 (fun h41 => ?_) (fun h41 => ?_)
                · exact g
                · refine ks_M_sure_44 <| ks_M_sure_46 (fun h46 => ?_) (fun h46 => ?_)
                  · exact g
                  · exact absurd h46 (by decide)
      refine ks_M_sure_25 <| ks_M_sure_27 rfl <| ks_M_sure_28 <| ks_M_sure_29 rfl <| ks_M_sure_31 <| ks_M_sure_32 <| ks_M_sure_33 <| ks_M_sure_34 <| ks_M_sure_37 (Nat.le_of_ble_eq_true rfl) ?_
      refine kt_M_try ha.h hc8 (fun μ1 a1 t1 f1 => ?_)
      exact loop 10 μ1 (by decide) a1 t1 f1 rfl
    · exact no (fun q => of_decide_eq_false (kq_b_f h15) q.2)
theorem ko_M_water (hz : kz_ok z) : kM_ct km_M_water [kq_I n, kq_I x] z (sp_water z n x).2 (kq_I (sp_water z n x).1) := by
  intro μ Q ha k
  have hv := hz.1.1
  have hc8 := hv.1
  have hm := hz.1.2
  have no : ¬ ((1 ≤ n ∧ n ≤ 60) ∧ 0 ≤ x ∧ x ≤ 9999) → kq_S km_M_water 11 21 [some (kq_R 0 20), some (kq_I n), some (kq_I x), none, none] [] μ Q := by
    intro h
    rw [show sp_water z n x = kz_F z 0 from if_pos h] at k
    refine ks_M_water_21 <| ks_M_water_22 <| ks_M_water_24 (Nat.le_of_ble_eq_true rfl) ?_
    refine kt_M_fin 0 ha (by decide) (by decide) (fun μ' a1 f1 => ?_)
    refine ks_M_water_27 ?_
    exact k μ' a1 f1
  refine ke_M_water ?_
  refine ks_M_water_0 <| ks_M_water_1 <| ks_M_water_2 <| ks_M_water_4 (Nat.le_of_ble_eq_true rfl) ?_
  refine kt_M_in ?_
  refine ks_M_water_7 (fun h7 => ?_) (fun h7 => ?_)
  · exact no (fun q => of_decide_eq_false (kq_b_f h7) q.1)
  · have h := of_decide_eq_true (kq_b_t h7)
    refine ks_M_water_10 <| ks_M_water_11 <| ks_M_water_12 <| ks_M_water_15 (Nat.le_of_ble_eq_true rfl) ?_
    refine kt_M_in ?_
    refine ks_M_water_18 (fun h18 => ?_) (fun h18 => ?_)
    · have hx := of_decide_eq_true (kq_b_t h18)
      have e0 : sp_water z n x = _ := if_neg (fun q => q ⟨h, hx⟩)
      obtain ⟨j, hj, rfl⟩ := kn_of_le (c := 60) (by decide) (by decide) h
      rw [kh_nat_nI (show j < 2 ^ 31 by omega)] at e0
      rw [e0] at k
      generalize hG : (fun i => kh_E (kh_pass j (kh_setW (kz_h z) (nI i)))) = G at k
      have hGi : ∀ i, kh_E (kh_pass j (kh_setW (kz_h z) (nI i))) = G i := fun i => by rw [← hG]
      have out : ∀ (i : Int32) (b : Bool) (c : Nat) (μ1 : kq_M), kr_at μ1 21 (kz_h z) → kM_h μ μ1 → (b = true → i = nI c) → kg_su G x 100 0 = (if b = true then some c else none) → kq_S km_M_water 11 82 [some (kq_R 0 20), some (kq_I (nI j)), some (kq_I x), some (kq_I i), some (kq_I (kq_b b))] [] μ1 Q := by
        intro i b c μ1 a1 f1 hi e
        rw [e] at k
        have a2 : kM_at μ1 z := ha.hall a1 f1
        refine ks_M_water_82 <| ks_M_water_84 (fun h84 => ?_) (fun h84 => ?_)
        · rw [if_neg (by rw [kq_b_f h84]; decide)] at k
          refine ks_M_water_91 <| ks_M_water_92 <| ks_M_water_94 (Nat.le_of_ble_eq_true rfl) ?_
          refine kt_M_fin 3 a2 (by decide) (by decide) (fun μ' a4 f4 => ?_)
          refine ks_M_water_97 ?_
          exact k μ' a4 (f1.P.tr f4)
        · rw [if_pos (kq_b_t h84)] at k
          refine ks_M_water_87 <| ks_M_water_88 <| ks_M_water_97 ?_
          rw [hi (kq_b_t h84)]
          exact k μ1 a2 f1.P
      have loop : ∀ (q i : Nat) (l : Int32) (μ1 : kq_M), i + q = 100 → l + 1 = nI i → l.toInt = (i : Int) - 1 → kr_at μ1 21 (kz_h z) → kr_at μ1 23 (kz_h z) → kM_h μ μ1 → kg_su G x q i = kg_su G x 100 0 → kq_S km_M_water 11 42 [some (kq_R 0 20), some (kq_I (nI j)), some (kq_I x), some (kq_I l), some (kq_I (kq_b false))] [] μ1 Q := by
        intro q
        induction q with
        | zero =>
          intro i l μ1 hi hl hl2 a1 t1 f1 e
          refine ks_M_water_42 <| ks_M_water_43 <| ks_M_water_45 (fun h45 => ?_) (fun h45 => ?_)
          · exact out l false 0 μ1 a1 f1 (fun q => absurd q (by decide)) (e.symm.trans (by rw [if_neg (by decide)]; rfl))
          · rw [ki_le, ki_99] at h45
            omega
        | succ q ih =>
          intro i l μ1 hi hl hl2 a1 t1 f1 e
          have e1 : kg_su G x (q + 1) i = if x ≤ G i then some i else kg_su G x q (i + 1) := rfl
          refine ks_M_water_42 <| ks_M_water_43 <| ks_M_water_45 (fun h45 => ?_) (fun h45 => ?_)
          · rw [ki_le, ki_99] at h45
            omega
          · refine ks_M_water_48 <| ks_M_water_50 (fun h50 => ?_) (fun h50 => ?_)
            · exact absurd rfl h50
            · refine ks_M_water_53 rfl <| ks_M_water_56 <| ks_M_water_57 <| ks_M_water_60 <| ks_M_water_61 <| ks_M_water_62 <| ks_M_water_63 <| ks_M_water_64 <| ks_M_water_65 (Nat.le_of_ble_eq_true rfl) ?_
              rw [hl]
              refine kt_M_teaBehind (a1.wW (x := nI i)) (kh_setW_ok hv (kh_in_of 99 (by omega) (by decide) (by decide))) (by show kh_m (kz_h z) + _ < _; omega) (v0 := kz_h z) ?_ hc8 (fun μ3 a3 t3 f3 => ?_)
              · exact t1.fr (P := fun a b => a = 0 ∧ b = 21) (kq_fr.rf.wI ⟨rfl, rfl⟩) (fun q => by cases q.2)
              have f4 := (f1.row).tr f3.h
              rw [hGi]
              refine ks_M_water_68 <| ks_M_water_69 (fun h69 => ?_) (fun h69 => ?_)
              · rw [if_neg (by rw [ki_lt] at h69; rw [ki_le]; omega)] at e1
                refine ks_M_water_76 <| ks_M_water_77 rfl <| ks_M_water_79 ?_
                exact ih (i + 1) (nI i) μ3 (by omega) (nI_1 i) (by rw [nI_toInt (by omega)]; omega) a3 t3 f4 (e1.symm.trans e)
              · rw [if_pos (by rw [ki_lt] at h69; rw [ki_le]; omega)] at e1
                have g := out (nI i) true i μ3 a3 f4 (fun _ => rfl) (e.symm.trans (e1.trans (by rw [if_pos rfl])))
                refine ks_M_water_72 <| ks_M_water_73 <| ks_M_water_77 rfl <| ks_M_water_79 ?_
                refine ks_M_water_42 <| ks_M_water_43 <| ks_M_water_45 (fun h45 => ?_) (fun h45 => ?_)
                · exact g
                · refine ks_M_water_48 <| ks_M_water_50 (fun h50 => ?_) (fun h50 => ?_)
                  · exact g
                  · exact absurd h50 (by decide)
      refine ks_M_water_28 <| ks_M_water_29 rfl <| ks_M_water_30 <| ks_M_water_31 rfl <| ks_M_water_33 <| ks_M_water_34 <| ks_M_water_35 <| ks_M_water_36 <| ks_M_water_39 (Nat.le_of_ble_eq_true rfl) ?_
      refine kt_M_try ha.h hc8 (fun μ1 a1 t1 f1 => ?_)
      exact loop 100 0 (-1) μ1 rfl (by decide) (by decide) a1 t1 f1 rfl
    · exact no (fun q => of_decide_eq_false (kq_b_f h18) q.2)
end KM8
