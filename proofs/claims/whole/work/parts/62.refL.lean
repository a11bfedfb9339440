/-! THE REFERENCE: its calls (9): numbers cut to their bits; write -/
theorem kl_ext {x y : Int64} (h : ∀ i, i < 64 → x.toBitVec.getLsbD i = y.toBitVec.getLsbD i) : x = y := Int64.toBitVec_inj.mp (BitVec.eq_of_getLsbD_eq (fun i hi => h i hi))
theorem kl_sh {v : Int64} {c : Int64} {k : Nat} (hc : c.toBitVec.smod 64 = BitVec.ofNat 64 k) (hk : k < 64) {i : Nat} (hi : i < 64) : ((v <<< c) >>> c).toBitVec.getLsbD i = v.toBitVec.getLsbD (if i + k < 64 then i else 63 - k) := by
  rw [Int64.toBitVec_shiftRight, Int64.toBitVec_shiftLeft, hc, BitVec.sshiftRight_eq', BitVec.shiftLeft_eq', BitVec.getLsbD_sshiftRight]
  have e : (BitVec.ofNat 64 k).toNat = k := by rw [BitVec.toNat_ofNat]; exact Nat.mod_eq_of_lt (by omega)
  rw [e]
  by_cases h : i + k < 64
  · rw [if_pos h, decide_eq_false (show ¬ 64 ≤ i by omega), if_pos (show k + i < 64 by omega), BitVec.getLsbD_shiftLeft, decide_eq_true (show k + i < 64 by omega), decide_eq_false (show ¬ k + i < k by omega), show k + i - k = i by omega]
    rfl
  · rw [if_neg h, decide_eq_false (show ¬ 64 ≤ i by omega), if_neg (show ¬ k + i < 64 by omega), BitVec.msb_eq_getLsbD_last, BitVec.getLsbD_shiftLeft, decide_eq_true (show 64 - 1 < 64 by decide), decide_eq_false (show ¬ 64 - 1 < k by omega), show 64 - 1 - k = 63 - k by omega]
    rfl
theorem kl_se {w m i : Nat} (x : BitVec w) (hi : i < m) : (x.signExtend m).getLsbD i = x.getLsbD (if i < w then i else w - 1) := by
  rw [BitVec.getLsbD_signExtend, decide_eq_true hi, Bool.true_and, BitVec.msb_eq_getLsbD_last]
  split <;> rfl
theorem kl_if (x m : Nat) (hm : 0 < m) : (if x < m then x else m - 1) < m := by
  split <;> omega
theorem kl_8 (v : Int64) : (v <<< ((56 : Int32).toInt64 &&& 63)) >>> ((56 : Int32).toInt64 &&& 63) = v.toInt32.toInt8.toInt32.toInt64 := by
  refine kl_ext (fun i hi => ?_)
  rw [kl_sh (k := 56) (by decide) (by decide) hi]
  have e : v.toInt32.toInt8.toInt32.toInt64.toBitVec = ((((v.toBitVec.signExtend 32).signExtend 8).signExtend 32).signExtend 64) := by
    simp only [Int32.toBitVec_toInt64, Int8.toBitVec_toInt32, Int32.toBitVec_toInt8, Int64.toBitVec_toInt32]
  rw [e, kl_se _ hi, kl_se _ (kl_if _ _ (by decide)), kl_se _ (kl_if _ _ (by decide)), kl_se _ (kl_if _ _ (by decide))]
  congr 1
  by_cases h : i < 8
  · simp [h, show i < 32 by omega, show i + 56 < 64 by omega, hi]
  · by_cases h2 : i < 32
    · simp [h, h2, show ¬ i + 56 < 64 by omega]
    · simp [h2, show ¬ i + 56 < 64 by omega]
theorem kl_16 (v : Int64) : (v <<< ((48 : Int32).toInt64 &&& 63)) >>> ((48 : Int32).toInt64 &&& 63) = v.toInt32.toInt16.toInt32.toInt64 := by
  refine kl_ext (fun i hi => ?_)
  rw [kl_sh (k := 48) (by decide) (by decide) hi]
  have e : v.toInt32.toInt16.toInt32.toInt64.toBitVec = ((((v.toBitVec.signExtend 32).signExtend 16).signExtend 32).signExtend 64) := by
    simp only [Int32.toBitVec_toInt64, Int16.toBitVec_toInt32, Int32.toBitVec_toInt16, Int64.toBitVec_toInt32]
  rw [e, kl_se _ hi, kl_se _ (kl_if _ _ (by decide)), kl_se _ (kl_if _ _ (by decide)), kl_se _ (kl_if _ _ (by decide))]
  congr 1
  by_cases h : i < 16
  · simp [h, show i < 32 by omega, show i + 48 < 64 by omega, hi]
  · by_cases h2 : i < 32
    · simp [h, h2, show ¬ i + 48 < 64 by omega]
    · simp [h2, show ¬ i + 48 < 64 by omega]
section KM12
variable {z : kz_S} {w a x n s f b i : Int32}
theorem kt_M_narrow {d : Nat} {μ : kq_M} {v : Int64} {Q : Option kq_V → kq_M → Prop} (k : Q (some (kq_L (kg_nar b v))) μ) : kq_Call d km_M_narrow [kq_I b, kq_L v] μ Q := by
  unfold kg_nar at k
  refine ke_M_narrow ?_
  refine ks_M_narrow_0 <| ks_M_narrow_1 <| ks_M_narrow_3 (fun h3 => ?_) (fun h3 => ?_)
  · rw [if_neg h3] at k
    refine ks_M_narrow_16 <| ks_M_narrow_17 <| ks_M_narrow_19 (fun h19 => ?_) (fun h19 => ?_)
    · rw [if_neg h19] at k
      refine ks_M_narrow_32 <| ks_M_narrow_33 ?_
      exact k
    · rw [if_pos h19] at k
      refine ks_M_narrow_22 <| ks_M_narrow_23 <| ks_M_narrow_25 <| ks_M_narrow_26 <| ks_M_narrow_28 <| ks_M_narrow_29 <| ks_M_narrow_33 ?_
      rw [kl_16]
      exact k
  · rw [if_pos h3] at k
    refine ks_M_narrow_6 <| ks_M_narrow_7 <| ks_M_narrow_9 <| ks_M_narrow_10 <| ks_M_narrow_12 <| ks_M_narrow_13 <| ks_M_narrow_33 ?_
    rw [kl_8]
    exact k
theorem ko_M_write {v : Int64} (hz : kz_ok z) : kM_ct km_M_write [kq_I s, kq_I i, kq_L v] z (sp_write z s i v).2 (kq_L (sp_write z s i v).1) := by
  intro μ Q ha k
  refine ke_M_write ?_
  refine ks_M_write_0 <| ks_M_write_1 (Nat.le_of_ble_eq_true rfl) ?_
  refine kt_M_isSheet ?_
  refine ks_M_write_4 (fun h4 => ?_) (fun h4 => ?_)
  · have hs := of_decide_eq_true (kq_b_t h4)
    have e0 : sp_write z s i v = _ := if_neg (fun q => q hs)
    obtain ⟨j, hj, rfl⟩ := kh_ix (c := 4) (by decide) hs
    rw [kh_nat_nI (show j < 2 ^ 31 by omega)] at e0
    have hL := hz.2.2.2.2 j hj
    refine ks_M_write_15 <| ks_M_write_16 <| ks_M_write_19 <| ks_M_write_20n (by omega) <| ks_M_write_21 (fun h21 => ?_) (fun h21 => ?_)
    · rw [ha.B j hj] at h21
      rw [if_neg h21] at e0
      refine ks_M_write_32 <| ks_M_write_33 <| ks_M_write_34 <| ks_M_write_35 <| ks_M_write_38 <| ks_M_write_39n (by omega) <| ks_M_write_40 <| ks_M_write_41 <| ks_M_write_42 (Nat.le_of_ble_eq_true rfl) ?_
      refine kt_M_in ?_
      refine ks_M_write_45 (fun h45 => ?_) (fun h45 => ?_)
      · have h2 := of_decide_eq_true (kq_b_t h45)
        rw [ha.L j hj] at h2
        have h3 : 0 ≤ i ∧ i < nI (kz_L z j) := by
          rw [ki_le, ki_le, ki_sub (by rw [nI_toInt (by omega)]; omega) (by decide), nI_toInt (by omega), ki_1] at h2
          rw [ki_le, ki_lt, nI_toInt (by omega)]
          omega
        rw [if_neg (fun q => q h3)] at e0
        obtain ⟨q, hq, rfl⟩ := kh_ix (by omega) h3
        rw [kh_nat_nI (show q < 2 ^ 31 by omega)] at e0
        rw [e0] at k
        refine ks_M_write_56 <| ks_M_write_57 <| ks_M_write_60 <| ks_M_write_62 <| ks_M_write_63 <| ks_M_write_64 <| ks_M_write_65 <| ks_M_write_66 (40 * j + q) km_40 (by omega) <| ks_M_write_67 rfl <| ks_M_write_69 <| ks_M_write_70 <| ks_M_write_73 <| ks_M_write_75 <| ks_M_write_76 <| ks_M_write_77 <| ks_M_write_78 <| ks_M_write_79 <| ks_M_write_80 <| ks_M_write_83 <| ks_M_write_84n (by omega) <| ks_M_write_85 <| ks_M_write_86 (Nat.le_of_ble_eq_true rfl) ?_
        refine kt_M_narrow ?_
        refine ks_M_write_89 (40 * j + q) km_40 (by omega) <| ks_M_write_90 <| ks_M_write_92 ?_
        have f1 : kq_fr kM_PS μ (kq_wL μ 0 28 (40 * j + q) (kg_nar (kq_rI μ 0 26 j) v)) := kq_fr.rf.wL ⟨rfl, Or.inr (Or.inr (Or.inl rfl))⟩
        rw [ha.N j hj q (by omega)]
        refine k _ (ha.sheets f1 ha.B ha.L (fun x hx y hy => ?_)) (kM_frS f1)
        unfold va_up
        by_cases e : x = j
        · rw [if_pos e]
          by_cases e2 : y = q
          · rw [if_pos e2, e, e2, kw_ws, ha.B j hj]
          · rw [if_neg e2, e, kw_wr (by omega)]
            exact ha.N j hj y hy
        · rw [if_neg e, kw_wr (by omega)]
          exact ha.N x hx y hy
      · have h2 := of_decide_eq_false (kq_b_f h45)
        rw [ha.L j hj] at h2
        have h3 : ¬ (0 ≤ i ∧ i < nI (kz_L z j)) := by
          rw [ki_le, ki_le, ki_sub (by rw [nI_toInt (by omega)]; omega) (by decide), nI_toInt (by omega), ki_1] at h2
          rw [ki_le, ki_lt, nI_toInt (by omega)]
          omega
        rw [if_pos h3] at e0
        rw [e0] at k
        refine ks_M_write_48 <| ks_M_write_49 <| ks_M_write_51 (Nat.le_of_ble_eq_true rfl) ?_
        refine kt_M_fin 0 ha (by decide) (by decide) (fun μ' a1 f1 => ?_)
        refine ks_M_write_54 <| ks_M_write_55 ?_
        exact k μ' a1 f1
    · rw [ha.B j hj] at h21
      rw [if_pos h21] at e0
      rw [e0] at k
      refine ks_M_write_24 <| ks_M_write_25 <| ks_M_write_27 (Nat.le_of_ble_eq_true rfl) ?_
      refine kt_M_fin 5 ha (by decide) (by decide) (fun μ' a1 f1 => ?_)
      refine ks_M_write_30 <| ks_M_write_31 ?_
      exact k μ' a1 f1
  · rw [show sp_write z s i v = kz_F64 z 0 from if_pos (of_decide_eq_false (kq_b_f h4))] at k
    refine ks_M_write_7 <| ks_M_write_8 <| ks_M_write_10 (Nat.le_of_ble_eq_true rfl) ?_
    refine kt_M_fin 0 ha (by decide) (by decide) (fun μ' a1 f1 => ?_)
    refine ks_M_write_13 <| ks_M_write_14 ?_
    exact k μ' a1 f1
end KM12
