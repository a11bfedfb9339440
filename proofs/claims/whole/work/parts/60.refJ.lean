/-! THE REFERENCE: its calls (7): turns, status -/
section KM10
variable {z : kz_S} {w a x n s f b : Int32}
theorem ko_M_turns (hz : kz_ok z) : kM_ct km_M_turns [kq_I n] z (sp_turns z n).2 (kq_I (sp_turns z n).1) := by
  intro μ Q ha k
  have hv := hz.1.1
  have hc8 := hv.1
  have hm := hz.1.2
  refine ke_M_turns ?_
  refine ks_M_turns_0 <| ks_M_turns_1 <| ks_M_turns_2 <| ks_M_turns_4 (Nat.le_of_ble_eq_true rfl) ?_
  refine kt_M_in ?_
  refine ks_M_turns_7 (fun h7 => ?_) (fun h7 => ?_)
  · have h := of_decide_eq_true (kq_b_t h7)
    have e0 : sp_turns z n = _ := if_neg (fun q => q h)
    obtain ⟨j, hj, rfl⟩ := kn_of_le (c := 60) (by decide) (by decide) h
    rw [kh_nat_nI (by omega)] at e0
    generalize hG : (fun w o => kh_E (kh_pass j (kh_swap (kz_h z) w o))) = G at e0
    have hGi : ∀ w o, kh_E (kh_pass j (kh_swap (kz_h z) w o)) = G w o := fun w o => by rw [← hG]
    generalize hR : kg_tout G (kh_c (kz_h z)) (kh_c (kz_h z)) 0 (-1) (kh_E (kh_pass j (kz_h z))) = R at e0
    have out : ∀ (m : Int32) (y : Int32) (o o' : Option kq_V) (μ1 : kq_M), kr_at μ1 21 (kz_h z) → kM_h μ μ1 → kq_S km_M_turns 11 126 [some (kq_R 0 20), some (kq_I (nI j)), some (kq_I R), some (kq_I m), some (kq_I y), o, o'] [] μ1 Q := by
      intro m y o o' μ1 a1 f1
      have a2 : kM_at μ1 z := ha.hall a1 f1
      refine ks_M_turns_126 <| ks_M_turns_127 (fun h127 => ?_) (fun h127 => ?_)
      · rw [if_neg (by rw [ki_le] at h127; rw [ki_lt]; omega)] at e0
        rw [e0] at k
        refine ks_M_turns_139 <| ks_M_turns_140 ?_
        exact k μ1 a2 f1.P
      · rw [if_pos (by rw [ki_le] at h127; rw [ki_lt]; omega)] at e0
        rw [e0] at k
        refine ks_M_turns_130 <| ks_M_turns_131 <| ks_M_turns_133 (Nat.le_of_ble_eq_true rfl) ?_
        refine kt_M_fin 3 a2 (by decide) (by decide) (fun μ' a4 f4 => ?_)
        refine ks_M_turns_136 <| ks_M_turns_140 ?_
        exact k μ' a4 (f1.P.tr f4)
    have inner : ∀ (y : Nat), y < kh_c (kz_h z) → ∀ (B0 : Int32 × Int32), (∀ (μ1 : kq_M) (o o' : Option kq_V), kr_at μ1 21 (kz_h z) → kr_at μ1 23 (kz_h z) → kM_h μ μ1 → kq_S km_M_turns 11 37 [some (kq_R 0 20), some (kq_I (nI j)), some (kq_I B0.1), some (kq_I B0.2), some (kq_I (nI (y + 1))), o, o'] [] μ1 Q) → ∀ (q i : Nat) (bb m : Int32) (μ1 : kq_M) (o' : Option kq_V), i + q = kh_c (kz_h z) → y < i → kr_at μ1 21 (kz_h z) → kr_at μ1 23 (kz_h z) → kM_h μ μ1 → kg_tin G y q i bb m = B0 → kq_S km_M_turns 11 55 [some (kq_R 0 20), some (kq_I (nI j)), some (kq_I bb), some (kq_I m), some (kq_I (nI y)), some (kq_I (nI i)), o'] [] μ1 Q := by
      intro y hy B0 next q
      induction q with
      | zero =>
        intro i bb m μ1 o' hi hyi a1 t1 f1 e
        have e' : (bb, m) = B0 := e
        subst e'
        refine ks_M_turns_55 <| ks_M_turns_57 <| ks_M_turns_58 <| ks_M_turns_61 <| ks_M_turns_63 <| ks_M_turns_64 (fun h64 => ?_) (fun h64 => ?_)
        · refine ks_M_turns_120n rfl <| ks_M_turns_123 ?_
          exact next μ1 _ _ a1 t1 f1
        · rw [a1.c] at h64
          exact absurd (nI_le (show kh_c (kz_h z) ≤ i by omega) (by omega)) h64
      | succ q ih =>
        intro i bb m μ1 o' hi hyi a1 t1 f1 e
        have e1 : kg_tin G y (q + 1) i bb m = if m < G y i then kg_tin G y q (i + 1) (10 * nI y + nI i) (G y i) else kg_tin G y q (i + 1) bb m := rfl
        refine ks_M_turns_55 <| ks_M_turns_57 <| ks_M_turns_58 <| ks_M_turns_61 <| ks_M_turns_63 <| ks_M_turns_64 (fun h64 => ?_) (fun h64 => ?_)
        · rw [a1.c] at h64
          exact absurd h64 (nI_ge (show i < kh_c (kz_h z) by omega) (by omega))
        · refine ks_M_turns_67 <| ks_M_turns_68 <| ks_M_turns_70 <| ks_M_turns_72 (Nat.le_of_ble_eq_true rfl) ?_
          refine kt_M_swaps a1 hv hy (by omega) (by omega) (fun μ2 a2 f2 => ?_)
          refine ks_M_turns_75 <| ks_M_turns_76 <| ks_M_turns_77 (Nat.le_of_ble_eq_true rfl) ?_
          refine kt_M_teaBehind a2 (kh_swap_ok hv hy (by omega)) (by show kh_m (kz_h z) + _ < _; omega) (v0 := kz_h z) (f2.t t1) hc8 (fun μ3 a3 t3 f3 => ?_)
          have f4 := (f1.tr f2.h).tr f3.h
          rw [hGi]
          refine ks_M_turns_80 rfl <| ks_M_turns_82 <| ks_M_turns_84 <| ks_M_turns_85 (fun h85 => ?_) (fun h85 => ?_)
          · rw [if_neg (by rw [ki_le] at h85; rw [ki_lt]; omega)] at e1
            refine ks_M_turns_99 <| ks_M_turns_100 rfl <| ks_M_turns_101 <| ks_M_turns_103 <| ks_M_turns_104 (fun h104 => ?_) (fun h104 => ?_)
            · refine ks_M_turns_112 <| ks_M_turns_113 rfl <| ks_M_turns_114n rfl <| ks_M_turns_117 ?_
              exact ih (i + 1) bb m μ3 _ (by omega) (by omega) a3 t3 f4 (e1.symm.trans e)
            · exact absurd h85 h104
          · rw [if_pos (by rw [ki_le] at h85; rw [ki_lt]; omega)] at e1
            refine ks_M_turns_88 <| ks_M_turns_90 <| ks_M_turns_92 <| ks_M_turns_93 <| ks_M_turns_95 <| ks_M_turns_96 <| ks_M_turns_100 rfl <| ks_M_turns_101 <| ks_M_turns_103 <| ks_M_turns_104 (fun h104 => ?_) (fun h104 => ?_)
            · exact absurd h104 h85
            · refine ks_M_turns_107 <| ks_M_turns_109 <| ks_M_turns_113 rfl <| ks_M_turns_114n rfl <| ks_M_turns_117 ?_
              exact ih (i + 1) _ (G y i) μ3 _ (by omega) (by omega) a3 t3 f4 (e1.symm.trans e)
    have outer : ∀ (q y : Nat) (bb m : Int32) (μ1 : kq_M) (o o' : Option kq_V), y + q = kh_c (kz_h z) → kr_at μ1 21 (kz_h z) → kr_at μ1 23 (kz_h z) → kM_h μ μ1 → kg_tout G (kh_c (kz_h z)) q y bb m = R → kq_S km_M_turns 11 37 [some (kq_R 0 20), some (kq_I (nI j)), some (kq_I bb), some (kq_I m), some (kq_I (nI y)), o, o'] [] μ1 Q := by
      intro q
      induction q with
      | zero =>
        intro y bb m μ1 o o' hy a1 t1 f1 e
        have e' : bb = R := e
        subst e'
        refine ks_M_turns_37 <| ks_M_turns_39 <| ks_M_turns_40 <| ks_M_turns_43 <| ks_M_turns_45 <| ks_M_turns_46 (fun h46 => ?_) (fun h46 => ?_)
        · exact out m _ o o' μ1 a1 f1
        · rw [a1.c] at h46
          exact absurd (nI_le (show kh_c (kz_h z) ≤ y by omega) (by omega)) h46
      | succ q ih =>
        intro y bb m μ1 o o' hy a1 t1 f1 e
        refine ks_M_turns_37 <| ks_M_turns_39 <| ks_M_turns_40 <| ks_M_turns_43 <| ks_M_turns_45 <| ks_M_turns_46 (fun h46 => ?_) (fun h46 => ?_)
        · rw [a1.c] at h46
          exact absurd h46 (nI_ge (show y < kh_c (kz_h z) by omega) (by omega))
        · refine ks_M_turns_49 <| ks_M_turns_51 <| ks_M_turns_52 <| ks_M_turns_53 rfl ?_
          rw [nI_1]
          exact inner y (by omega) (kg_tin G y (kh_c (kz_h z) - (y + 1)) (y + 1) bb m) (fun μ2 o2 o3 a2 t2 f2 => ih (y + 1) _ _ μ2 o2 o3 (by omega) a2 t2 f2 e) (kh_c (kz_h z) - (y + 1)) (y + 1) bb m μ1 o' (by omega) (by omega) a1 t1 f1 rfl
    refine ks_M_turns_17 <| ks_M_turns_18 rfl <| ks_M_turns_19 <| ks_M_turns_20 <| ks_M_turns_21 <| ks_M_turns_22 <| ks_M_turns_25 (Nat.le_of_ble_eq_true rfl) ?_
    refine kt_M_try ha.h hc8 (fun μ1 a1 t1 f1 => ?_)
    refine ks_M_turns_28 <| ks_M_turns_29 <| ks_M_turns_30 (Nat.le_of_ble_eq_true rfl) ?_
    refine kt_M_teaBehind a1 hv (by omega) (v0 := kz_h z) t1 hc8 (fun μ3 a3 t3 f3 => ?_)
    refine ks_M_turns_33 rfl <| ks_M_turns_34 <| ks_M_turns_35 rfl ?_
    exact outer (kh_c (kz_h z)) 0 (-1) _ μ3 none none (by omega) a3 t3 (f1.tr f3.h) hR
  · rw [show sp_turns z n = _ from if_pos (of_decide_eq_false (kq_b_f h7))] at k
    refine ks_M_turns_10 <| ks_M_turns_11 <| ks_M_turns_13 (Nat.le_of_ble_eq_true rfl) ?_
    refine kt_M_fin 0 ha (by decide) (by decide) (fun μ' a1 f1 => ?_)
    refine ks_M_turns_16 ?_
    exact k μ' a1 f1
theorem ko_M_status : kM_ct km_M_status [kq_I a] z (sp_status z a).2 (kq_I (sp_status z a).1) := by
  intro μ Q ha k
  refine ke_M_status ?_
  refine ks_M_status_0 <| ks_M_status_1 <| ks_M_status_2 <| ks_M_status_4 (Nat.le_of_ble_eq_true rfl) ?_
  refine kt_M_in ?_
  refine ks_M_status_7 (fun h7 => ?_) (fun h7 => ?_)
  · have h := of_decide_eq_true (kq_b_t h7)
    have hi := h
    rw [ki_le, ki_le, ki_m1, ki_6] at hi
    have loop : ∀ (q i : Nat), i + q = 7 → kq_S km_M_status 11 21 [some (kq_R 0 20), some (kq_I a), some (kq_I (kg_sum (kz_f z) i)), some (kq_I (nI i))] [] μ Q := by
      intro q
      induction q with
      | zero =>
        intro i hq
        refine ks_M_status_21 <| ks_M_status_22 <| ks_M_status_24 (fun h24 => ?_) (fun h24 => ?_)
        · rw [show i = 7 by omega]
          refine ks_M_status_42 <| ks_M_status_43 (fun h43 => ?_) (fun h43 => ?_)
          · rw [ki_le, ki_0] at h43
            have e0 : sp_status z a = _ := (if_neg (fun q => by rw [ki_eq, ki_m1] at q; omega)).trans (if_pos ⟨by rw [ki_le, ki_0]; exact h43, by rw [ki_lt, ki_7]; omega⟩)
            obtain ⟨y, hy, rfl⟩ := kh_ix (c := 7) (by decide) (x := a) ⟨by rw [ki_le, ki_0]; exact h43, by rw [ki_lt, show (nI 7).toInt = 7 from by decide]; omega⟩
            rw [kh_nat_nI (by omega)] at e0
            rw [e0] at k
            refine ks_M_status_50 <| ks_M_status_51 <| ks_M_status_54 <| ks_M_status_55 (fun h55 => ?_) (fun h55 => ?_)
            · refine ks_M_status_62 <| ks_M_status_63n (by omega) <| ks_M_status_64 ?_
              rw [ha.f y hy]
              exact k _ ha kq_fr.rf
            · rw [ki_le, ki_0] at h55
              omega
          · rw [ki_le, ki_0] at h43
            rw [show sp_status z a = _ from if_pos ((ki_eq _ _).mpr (by rw [ki_m1]; omega))] at k
            refine ks_M_status_46 <| ks_M_status_47 <| ks_M_status_64 ?_
            exact k _ ha kq_fr.rf
        · rw [ki_le, ki_7, nI_toInt (by omega)] at h24
          omega
      | succ q ih =>
        intro i hq
        refine ks_M_status_21 <| ks_M_status_22 <| ks_M_status_24 (fun h24 => ?_) (fun h24 => ?_)
        · rw [ki_le, ki_7, nI_toInt (by omega)] at h24
          omega
        · refine ks_M_status_27 <| ks_M_status_28 <| ks_M_status_29 <| ks_M_status_32 <| ks_M_status_33n (by omega) <| ks_M_status_34 <| ks_M_status_35 rfl <| ks_M_status_36n rfl <| ks_M_status_39 ?_
          rw [ha.f i (by omega)]
          exact ih (i + 1) (by omega)
    refine ks_M_status_17 <| ks_M_status_18 rfl <| ks_M_status_19 <| ks_M_status_20 rfl ?_
    exact loop 7 0 rfl
  · have h := of_decide_eq_false (kq_b_f h7)
    rw [ki_le, ki_le, ki_m1, ki_6] at h
    rw [show sp_status z a = kz_F z 0 from (if_neg (fun q => by rw [ki_eq, ki_m1] at q; omega)).trans (if_neg (fun q => by rw [ki_le, ki_lt, ki_0, ki_7] at q; omega))] at k
    refine ks_M_status_10 <| ks_M_status_11 <| ks_M_status_13 (Nat.le_of_ble_eq_true rfl) ?_
    refine kt_M_fin 0 ha (by decide) (by decide) (fun μ' a1 f1 => ?_)
    refine ks_M_status_16 ?_
    exact k μ' a1 f1
end KM10
