/-! THE REFERENCE: its calls (11): lays, book -/
section KM14
variable {z : kz_S} {w a x n s f b i : Int32}
theorem kt_M_badSheet {d : Nat} {μ : kq_M} {Q : Option kq_V → kq_M → Prop} (ha : kM_at μ z) (k : Q (some (kq_I (if ¬ (0 ≤ s ∧ s < 4) then kz_code 0 else if kz_B z (kh_nat s) = 0 then kz_code 5 else 0))) μ) : kq_Call (d + 2) km_M_badSheet [kq_R 0 20, kq_I s] μ Q := by
  refine ke_M_badSheet ?_
  refine ks_M_badSheet_0 <| ks_M_badSheet_1 (Nat.le_of_ble_eq_true rfl) ?_
  refine kt_M_isSheet ?_
  refine ks_M_badSheet_4 (fun h4 => ?_) (fun h4 => ?_)
  · have hs := of_decide_eq_true (kq_b_t h4)
    rw [if_neg (fun q => q hs)] at k
    obtain ⟨j, hj, rfl⟩ := kh_ix (c := 4) (by decide) hs
    rw [kh_nat_nI (show j < 2 ^ 31 by omega)] at k
    refine ks_M_badSheet_12 <| ks_M_badSheet_13 <| ks_M_badSheet_16 <| ks_M_badSheet_17n (by omega) <| ks_M_badSheet_18 (fun h18 => ?_) (fun h18 => ?_)
    · rw [ha.B j hj] at h18
      rw [if_neg h18] at k
      refine ks_M_badSheet_26 <| ks_M_badSheet_27 ?_
      exact k
    · rw [ha.B j hj] at h18
      rw [if_pos h18, show kz_code 5 = -1000000006 from by decide] at k
      refine ks_M_badSheet_21 <| ks_M_badSheet_23 <| ks_M_badSheet_27 ?_
      exact k
  · rw [if_pos (of_decide_eq_false (kq_b_f h4)), show kz_code 0 = -1000000001 from by decide] at k
    refine ks_M_badSheet_7 <| ks_M_badSheet_9 <| ks_M_badSheet_27 ?_
    exact k
theorem ko_M_lays (hz : kz_ok z) : kM_ct km_M_lays [kq_I s] z (sp_lays z s).2 (kq_I (sp_lays z s).1) := by
  intro μ Q ha k
  have hv := hz.1.1
  have hc8 := hv.1
  refine ke_M_lays ?_
  refine ks_M_lays_0 <| ks_M_lays_1 <| ks_M_lays_2 (Nat.le_of_ble_eq_true rfl) ?_
  refine kt_M_badSheet ha ?_
  by_cases hs : 0 ≤ s ∧ s < 4
  · rw [if_neg (fun q => q hs)]
    have e0 : sp_lays z s = _ := if_neg (fun q => q hs)
    obtain ⟨j, hj, rfl⟩ := kh_ix (c := 4) (by decide) hs
    rw [kh_nat_nI (show j < 2 ^ 31 by omega)] at e0 ⊢
    have hL := hz.2.2.2.2 j hj
    by_cases hB : kz_B z j = 0
    · rw [if_pos hB] at e0 ⊢
      rw [e0] at k
      refine ks_M_lays_5 rfl <| ks_M_lays_6 <| ks_M_lays_7 (fun h7 => ?_) (fun h7 => ?_)
      · exact absurd h7 (by decide)
      · refine ks_M_lays_10 <| ks_M_lays_11 <| ks_M_lays_12 (Nat.le_of_ble_eq_true rfl) ?_
        refine kt_M_fin 5 ha (by decide) rfl (fun μ' a1 f1 => ?_)
        refine ks_M_lays_15 ?_
        exact k μ' a1 f1
    · rw [if_neg hB] at e0 ⊢
      rw [e0] at k
      clear e0
      have loop : ∀ (q i m : Nat) (v1 : kh_S) (μ1 : kq_M) (o o' : Option kq_V), i + q = min (kz_L z j) (kh_c (kz_h z)) → kh_c v1 = kh_c (kz_h z) → kr_at μ1 21 v1 → kM_m μ μ1 → kg_lays (kz_N z j) q i v1 m = kg_lays (kz_N z j) (min (kz_L z j) (kh_c (kz_h z))) 0 (kz_h z) 0 → kq_S km_M_lays 11 21 [some (kq_R 0 20), some (kq_I (nI j)), some (kq_I 0), some (kq_I (nI m)), some (kq_I (nI i)), o, o'] [] μ1 Q := by
        intro q
        induction q with
        | zero =>
          intro i m v1 μ1 o o' hi hc a1 f1 hg
          rw [← hg] at k
          have a0 : kM_at μ1 (kz_seth z v1) := ha.hall a1 f1.h
          have hl1 : kq_rI μ1 0 27 j = nI (kz_L z j) := a0.L j hj
          have out : kq_S km_M_lays 11 93 [some (kq_R 0 20), some (kq_I (nI j)), some (kq_I 0), some (kq_I (nI m)), some (kq_I (nI i)), o, o'] [] μ1 Q := by
            refine ks_M_lays_93 <| ks_M_lays_94 ?_
            exact k μ1 a0 f1.h.P
          refine ks_M_lays_21 <| ks_M_lays_23 <| ks_M_lays_24 <| ks_M_lays_27 <| ks_M_lays_28n (by omega) <| ks_M_lays_29 (fun h29 => ?_) (fun h29 => ?_)
          · exact out
          · refine ks_M_lays_32 <| ks_M_lays_34 <| ks_M_lays_35 <| ks_M_lays_38 <| ks_M_lays_40 <| ks_M_lays_41 (fun h41 => ?_) (fun h41 => ?_)
            · exact out
            · rw [hl1, ki_le, nI_toInt (by omega), nI_toInt (by omega)] at h29
              rw [a1.c, hc, ki_le, nI_toInt (by omega), nI_toInt (by omega)] at h41
              omega
        | succ q ih =>
          intro i m v1 μ1 o o' hi hc a1 f1 hg
          have a0 : kM_at μ1 (kz_seth z v1) := ha.hall a1 f1.h
          have hl1 : kq_rI μ1 0 27 j = nI (kz_L z j) := a0.L j hj
          have hn1 : kq_rL μ1 0 28 (40 * j + i) = kz_N z j i := a0.N j hj i (by omega)
          refine ks_M_lays_21 <| ks_M_lays_23 <| ks_M_lays_24 <| ks_M_lays_27 <| ks_M_lays_28n (by omega) <| ks_M_lays_29 (fun h29 => ?_) (fun h29 => ?_)
          · rw [hl1, ki_le, nI_toInt (by omega), nI_toInt (by omega)] at h29
            omega
          · refine ks_M_lays_32 <| ks_M_lays_34 <| ks_M_lays_35 <| ks_M_lays_38 <| ks_M_lays_40 <| ks_M_lays_41 (fun h41 => ?_) (fun h41 => ?_)
            · rw [a1.c, hc, ki_le, nI_toInt (by omega), nI_toInt (by omega)] at h41
              omega
            · refine ks_M_lays_44 <| ks_M_lays_45 <| ks_M_lays_48 <| ks_M_lays_50 <| ks_M_lays_51 <| ks_M_lays_52 <| ks_M_lays_54 <| ks_M_lays_55 (40 * j + i) km_40 (by omega) <| ks_M_lays_56 rfl <| ks_M_lays_58 <| ks_M_lays_60 <| ks_M_lays_61 <| ks_M_lays_62 (fun h62 => ?_) (fun h62 => ?_)
              · rw [hn1, lc_lt] at h62
                refine ks_M_lays_87n rfl <| ks_M_lays_90 ?_
                refine ih (i + 1) m v1 μ1 _ _ (by omega) hc a1 f1 ?_
                rw [← hg]
                show _ = if _ then _ else _
                rw [if_neg (fun q => by have := q.1; rw [Int64.le_iff_toInt_le] at this; rw [Int64.lt_iff_toInt_lt] at h62; omega)]
              · rw [hn1, lc_lt] at h62
                refine ks_M_lays_65 <| ks_M_lays_67 <| ks_M_lays_70 <| ks_M_lays_71 (fun h71 => ?_) (fun h71 => ?_)
                · rw [hn1, lc_gt] at h71
                  refine ks_M_lays_87n rfl <| ks_M_lays_90 ?_
                  refine ih (i + 1) m v1 μ1 _ _ (by omega) hc a1 f1 ?_
                  rw [← hg]
                  show _ = if _ then _ else _
                  rw [if_neg (fun q => by have := q.2; rw [Int64.le_iff_toInt_le] at this; rw [Int64.lt_iff_toInt_lt] at h71; omega)]
                · rw [hn1, lc_gt] at h71
                  refine ks_M_lays_74 <| ks_M_lays_75 <| ks_M_lays_77 <| ks_M_lays_78 <| ks_M_lays_80 <| ks_M_lays_81 (Nat.le_of_ble_eq_true rfl) ?_
                  refine kt_M_puts (q := 3) (by omega) (by decide) ?_
                  rw [hn1]
                  refine ks_M_lays_84n rfl <| ks_M_lays_87n rfl <| ks_M_lays_90 ?_
                  refine ih (i + 1) (m + 1) (kh_setu v1 i (kz_N z j i).toInt32) _ _ _ (by omega) hc a1.wu f1.row ?_
                  rw [← hg]
                  show _ = if _ then _ else _
                  rw [if_pos ⟨by rw [Int64.le_iff_toInt_le]; rw [Int64.lt_iff_toInt_lt] at h62; omega, by rw [Int64.le_iff_toInt_le]; rw [Int64.lt_iff_toInt_lt] at h71; omega⟩]
      refine ks_M_lays_5 rfl <| ks_M_lays_6 <| ks_M_lays_7 (fun h7 => ?_) (fun h7 => ?_)
      · refine ks_M_lays_16 <| ks_M_lays_17 rfl <| ks_M_lays_18 <| ks_M_lays_19 rfl ?_
        exact loop (min (kz_L z j) (kh_c (kz_h z))) 0 0 (kz_h z) μ none none (by omega) rfl ha.h kM_m.rf rfl
      · exact absurd rfl h7
  · rw [if_pos hs]
    rw [show sp_lays z s = kz_F z 0 from if_pos hs] at k
    refine ks_M_lays_5 rfl <| ks_M_lays_6 <| ks_M_lays_7 (fun h7 => ?_) (fun h7 => ?_)
    · exact absurd h7 (by decide)
    · refine ks_M_lays_10 <| ks_M_lays_11 <| ks_M_lays_12 (Nat.le_of_ble_eq_true rfl) ?_
      refine kt_M_fin 0 ha (by decide) rfl (fun μ' a1 f1 => ?_)
      refine ks_M_lays_15 ?_
      exact k μ' a1 f1
end KM14
