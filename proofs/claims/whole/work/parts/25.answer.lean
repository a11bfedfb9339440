/-! THE CLASS's HALL: an answer, a minute -/
section KT3
variable {d r w f : Nat} {μ : kq_M} {v : kh_S} {Q : Option kq_V → kq_M → Prop}
theorem kt_H_learnsBy {b : Bool} (hr : kq_hr r = true) (ha : kc_at μ r v) (hv : kh_ok v) (hw : w < kh_c v) (k : Q (some (kq_I (kq_b ((b && decide (kh_k v w = 2 ∨ kh_k v w = 5)) || (decide (kh_k v w = 4) && kh_bit (kh_luck v w) f))))) μ) : kq_Call (d + 1) km_H_learnsBy [kq_R r 1, kq_I (nI w), kq_I (nI f), kq_I (kq_b b)] μ Q := by
  have hw8 : w < 8 := Nat.lt_of_lt_of_le hw hv.1
  have hb := kq_b01' b
  have fls : kh_k v w ≠ 2 → kh_k v w ≠ 5 → kh_k v w ≠ 4 → kq_S km_H_learnsBy (d + 1) 48 [some (kq_R r 1), some (kq_I (nI w)), some (kq_I (nI f)), some (kq_I (kq_b b))] [] μ Q := by
    intro e2 e5 e4
    refine ks_H_learnsBy_48 <| ks_H_learnsBy_49 ?_
    rw [decide_eq_false (fun q => by rcases q with q | q; exact e2 q; exact e5 q), decide_eq_false e4, Bool.and_false, Bool.false_and] at k
    exact k
  refine ke_H_learnsBy ?_
  refine ks_H_learnsBy_0 <| ks_H_learnsBy_1 (by first | rfl | assumption) <| ks_H_learnsBy_4 <| ks_H_learnsBy_5n (by first | rfl | assumption) (by omega) <| ks_H_learnsBy_6 (fun h6 => ?_) (fun h6 => ?_) (fun h6 => ?_) (fun h6 => ?_) (fun h6 => ?_)
  · rw [ha.k hw] at h6
    refine ks_H_learnsBy_36 <| ks_H_learnsBy_37 (by first | exact kq_b01' _ | exact Or.inl rfl | exact Or.inr rfl | assumption) ?_
    rw [decide_eq_true (Or.inl h6), decide_eq_false (by rw [h6]; decide), Bool.and_true, Bool.false_and, Bool.or_false] at k
    exact k
  · rw [ha.k hw] at h6
    exact fls (by rw [h6]; decide) (by rw [h6]; decide) (by rw [h6]; decide)
  · rw [ha.k hw] at h6
    refine ks_H_learnsBy_38 <| ks_H_learnsBy_39 <| ks_H_learnsBy_40 (by first | rfl | assumption) (Nat.le_of_ble_eq_true rfl) ?_
    refine kt_H_luckySet hr ha hv hw ?_
    refine ks_H_learnsBy_43 <| ks_H_learnsBy_44 (Nat.le_of_ble_eq_true rfl) ?_
    refine kt_K_isIn ?_
    have hb2 := kq_b01' (kh_bit (kh_luck v w) f)
    refine ks_H_learnsBy_47 (by first | exact kq_b01' _ | exact Or.inl rfl | exact Or.inr rfl | assumption) ?_
    rw [decide_eq_false (by rw [h6]; decide), decide_eq_true h6, Bool.and_false, Bool.true_and, Bool.false_or] at k
    exact k
  · rw [ha.k hw] at h6
    refine ks_H_learnsBy_36 <| ks_H_learnsBy_37 (by first | exact kq_b01' _ | exact Or.inl rfl | exact Or.inr rfl | assumption) ?_
    rw [decide_eq_true (Or.inr h6), decide_eq_false (by rw [h6]; decide), Bool.and_true, Bool.false_and, Bool.or_false] at k
    exact k
  · rw [ha.k hw] at h6
    exact fls (fun q => by rw [q] at h6; revert h6; decide) (fun q => by rw [q] at h6; revert h6; decide) (fun q => by rw [q] at h6; revert h6; decide)
theorem kh_doubt_bd (x : Int32) : 0 ≤ (kh_doubt x).toInt ∧ (kh_doubt x).toInt ≤ 2 := by
  unfold kh_doubt
  split
  · decide
  · split <;> decide
theorem kt_H_hearAnswer (hr : kq_hr r = true) (ha : kc_at μ r v) (hv : kh_ok v) (hw : w < kh_c v) (hf : f < 8) (k : ∀ μ', kc_at μ' r (kh_ans v w f) → kq_fr (kc_P r) μ μ' → Q (some (kq_I (kq_b (kh_boil v w f)))) μ') : kq_Call (d + 4) km_H_hearAnswer [kq_R r 1, kq_I (nI w), kq_I (nI f)] μ Q := by
  have hw8 : w < 8 := Nat.lt_of_lt_of_le hw hv.1
  have hu := hv.2.2.2.2.2.2.2.2.2.2 w hw
  have hE := hv.2.2.2.2.2.1
  rw [kh_in_iff, ki_0, ki_9] at hu
  rw [kh_in_iff, ki_0, ki_9999] at hE
  have hP1 : kc_P r r 1 := ⟨rfl, by decide, by decide⟩
  have hP3 : kc_P r r 3 := ⟨rfl, by decide, by decide⟩
  have hP5 : kc_P r r 5 := ⟨rfl, by decide, by decide⟩
  -- behind the boiling: it learns
  have lrn : ∀ (μ1 : kq_M) (v1 : kh_S), kc_at μ1 r v1 → kh_ok v1 → kq_fr (kc_P r) μ μ1 → kh_c v1 = kh_c v → kh_k v1 = kh_k v → kh_n v1 = kh_n v → kh_s v1 = kh_s v → kh_T v1 = kh_T v → (∀ x : Bool, (if x then kh_setn v1 w (kh_n v w ||| ((1 : Int32) <<< (nI f &&& 31))) else v1) = (if x = kh_learn v w f then kh_ans v w f else (if x then kh_setn v1 w (kh_n v w ||| ((1 : Int32) <<< (nI f &&& 31))) else v1))) →
      kq_S km_H_hearAnswer (d + 4) 111 [some (kq_R r 1), some (kq_I (nI w)), some (kq_I (nI f)), some (kq_I (kq_b (kh_boil v w f)))] [] μ1 Q := by
    intro μ1 v1 a1 o1 f1 ec ek en es eT hx
    have hb := kq_b01' (kh_boil v w f)
    have hw1 : w < kh_c v1 := by rw [ec]; exact hw
    refine ks_H_hearAnswer_111 <| ks_H_hearAnswer_112 <| ks_H_hearAnswer_113 <| ks_H_hearAnswer_114 <| ks_H_hearAnswer_115 (by first | rfl | assumption) (Nat.le_of_ble_eq_true rfl) ?_
    refine kt_H_learnsBy hr a1 o1 hw1 ?_
    rw [ek, show kh_luck v1 w = kh_luck v w by unfold kh_luck; rw [en, es, eT]]
    refine ks_H_hearAnswer_118 (fun h118 => ?_) (fun h118 => ?_)
    · have hl : kh_learn v w f = false := kq_b_f h118
      refine ks_H_hearAnswer_133 <| ks_H_hearAnswer_134 (by first | exact kq_b01' _ | exact Or.inl rfl | exact Or.inr rfl | assumption) ?_
      have hx1 := hx false
      rw [hl, if_pos rfl, if_neg (by decide)] at hx1
      rw [hx1] at a1
      exact k μ1 a1 f1
    · have hl : kh_learn v w f = true := kq_b_t h118
      refine ks_H_hearAnswer_121 <| ks_H_hearAnswer_122 (by first | rfl | assumption) <| ks_H_hearAnswer_125 <| ks_H_hearAnswer_126 rfl rfl <| ks_H_hearAnswer_127n (by first | rfl | assumption) (by omega) <| ks_H_hearAnswer_128 <| ks_H_hearAnswer_129 <| ks_H_hearAnswer_130 <| ks_H_hearAnswer_131 <| ks_H_hearAnswer_132n (by first | rfl | assumption) (by omega) <| ks_H_hearAnswer_133 <| ks_H_hearAnswer_134 (by first | exact kq_b01' _ | exact Or.inl rfl | exact Or.inr rfl | assumption) ?_
      have hx1 := hx true
      rw [hl, if_pos rfl, if_pos rfl] at hx1
      rw [a1.n hw1, en]
      refine k _ ?_ (f1.wI hP3)
      rw [← hx1]
      exact a1.wn
  refine ke_H_hearAnswer ?_
  refine ks_H_hearAnswer_0 <| ks_H_hearAnswer_1 <| ks_H_hearAnswer_2 <| ks_H_hearAnswer_4 <| ks_H_hearAnswer_5 (by first | rfl | assumption) <| ks_H_hearAnswer_8 <| ks_H_hearAnswer_9 <| ks_H_hearAnswer_10 <| ks_H_hearAnswer_11 (by first | rfl | assumption) (Nat.le_of_ble_eq_true rfl) ?_
  rw [ha.H]
  refine kt_H_heatBy hr ha hv hw hf ?_
  refine ks_H_hearAnswer_14 <| ks_H_hearAnswer_15 (Nat.le_of_ble_eq_true rfl) <| ks_H_hearAnswer_18 (Nat.le_of_ble_eq_true rfl) <| ks_H_hearAnswer_21 (by first | rfl | assumption) <| ks_H_hearAnswer_24 <| ks_H_hearAnswer_25 (by first | rfl | assumption) <| ks_H_hearAnswer_28 <| ks_H_hearAnswer_29 (by first | rfl | assumption) <| ks_H_hearAnswer_32 (fun h32 => ?_) (fun h32 => ?_)
  · rw [kc_ws, kh_mm99] at h32
    rw [kc_sc (by decide), ha.B] at h32
    have hb : kh_boil v w f = false := decide_eq_false (fun q => by
      have := q.1
      unfold kh_h1 at this
      rw [ki_le] at this
      rw [ki_lt] at h32
      omega)
    refine ks_H_hearAnswer_47 <| ks_H_hearAnswer_48 rfl <| ks_H_hearAnswer_49 <| ks_H_hearAnswer_50 (fun h50 => ?_) (fun h50 => ?_)
    · rw [kh_mm99]
      refine (show kq_S km_H_hearAnswer (d + 4) 111 [some (kq_R r 1), some (kq_I (nI w)), some (kq_I (nI f)), some (kq_I (kq_b false))] [] _ Q from ?_)
      rw [← hb]
      refine lrn _ (kh_setH v (kh_h1 v w f)) ha.wH ?_ (kq_fr.rf.wI hP1) rfl rfl rfl rfl rfl ?_
      · exact kh_setH_ok hv (kh_clamp_in (by decide))
      · intro x
        by_cases ex : x = kh_learn v w f
        · rw [if_pos ex]
          unfold kh_ans
          rw [← ex]
          cases x <;> simp [hb, kh_setn, kh_setH, kh_mk, kh_T, kh_H, kh_W, kh_B, kh_E, kh_m, kh_c, kh_k, kh_n, kh_s, kh_u]
        · rw [if_neg ex]
    · exact absurd rfl h50
  · rw [kc_ws, kh_mm99] at h32
    rw [kc_sc (by decide), ha.B] at h32
    refine ks_H_hearAnswer_35 <| ks_H_hearAnswer_36 (by first | rfl | assumption) <| ks_H_hearAnswer_39 <| ks_H_hearAnswer_40 (fun h40 => ?_) (fun h40 => ?_)
    · rw [kc_sc (by decide), ha.W] at h40
      have hb : kh_boil v w f = false := decide_eq_false (fun q => by
        have := q.2
        rw [ki_le] at this
        rw [ki_lt] at h40
        omega)
      refine ks_H_hearAnswer_47 <| ks_H_hearAnswer_48 rfl <| ks_H_hearAnswer_49 <| ks_H_hearAnswer_50 (fun h50 => ?_) (fun h50 => ?_)
      · rw [kh_mm99]
        refine (show kq_S km_H_hearAnswer (d + 4) 111 [some (kq_R r 1), some (kq_I (nI w)), some (kq_I (nI f)), some (kq_I (kq_b false))] [] _ Q from ?_)
        rw [← hb]
        refine lrn _ (kh_setH v (kh_h1 v w f)) ha.wH ?_ (kq_fr.rf.wI hP1) rfl rfl rfl rfl rfl ?_
        · exact kh_setH_ok hv (kh_clamp_in (by decide))
        · intro x
          by_cases ex : x = kh_learn v w f
          · rw [if_pos ex]
            unfold kh_ans
            rw [← ex]
            cases x <;> simp [hb, kh_setn, kh_setH, kh_mk, kh_T, kh_H, kh_W, kh_B, kh_E, kh_m, kh_c, kh_k, kh_n, kh_s, kh_u]
          · rw [if_neg ex]
      · exact absurd rfl h50
    · rw [kc_sc (by decide), ha.W] at h40
      have hb : kh_boil v w f = true := decide_eq_true (by
        unfold kh_h1
        rw [ki_lt] at h32 h40
        rw [ki_le, ki_le]
        omega)
      refine ks_H_hearAnswer_43 <| ks_H_hearAnswer_44 <| ks_H_hearAnswer_48 rfl <| ks_H_hearAnswer_49 <| ks_H_hearAnswer_50 (fun h50 => ?_) (fun h50 => ?_)
      · exact absurd h50 (by decide)
      · refine ks_H_hearAnswer_53 <| ks_H_hearAnswer_54 <| ks_H_hearAnswer_57 <| ks_H_hearAnswer_58 (by first | rfl | assumption) <| ks_H_hearAnswer_61 <| ks_H_hearAnswer_62 <| ks_H_hearAnswer_63 (Nat.le_of_ble_eq_true rfl) <| ks_H_hearAnswer_66 (by first | rfl | assumption) <| ks_H_hearAnswer_69 <| ks_H_hearAnswer_70 rfl <| ks_H_hearAnswer_71 (by first | rfl | assumption) <| ks_H_hearAnswer_74 <| ks_H_hearAnswer_75 <| ks_H_hearAnswer_76 (by first | rfl | assumption) <| ks_H_hearAnswer_79 <| ks_H_hearAnswer_80 rfl <| ks_H_hearAnswer_81 (by first | rfl | assumption) <| ks_H_hearAnswer_84 <| ks_H_hearAnswer_85 <| ks_H_hearAnswer_86 (by first | rfl | assumption) <| ks_H_hearAnswer_89 <| ks_H_hearAnswer_90 (by first | rfl | assumption) <| ks_H_hearAnswer_93 <| ks_H_hearAnswer_94 <| ks_H_hearAnswer_95 <| ks_H_hearAnswer_96 (by first | rfl | assumption) <| ks_H_hearAnswer_99 <| ks_H_hearAnswer_100n (by first | rfl | assumption) (by omega) <| ks_H_hearAnswer_101 <| ks_H_hearAnswer_102 <| ks_H_hearAnswer_103 (by first | rfl | assumption) (Nat.le_of_ble_eq_true rfl) ?_
        rw [kh_mm99]
        have a1 : kc_at (kq_wI μ r 1 1 (kh_clamp (kh_H v + kh_heat v w f) 0 99)) r (kh_setH v (kh_h1 v w f)) := ha.wH
        rw [a1.E, show kh_E (kh_setH v (kh_h1 v w f)) = kh_E v from rfl]
        have a2 := a1.wE (x := kh_clamp (kh_E v + 2) 0 9999)
        rw [show (if kh_E v + 2 < 9999 then kh_E v + 2 else 9999) = kh_clamp (kh_E v + 2) 0 9999 from kh_min9999 (by rw [ki_add (by omega) (by rw [ki_2]; omega), ki_2]; omega)]
        rw [a2.W]
        have a3 := a2.wW (x := kh_W v - 4)
        rw [show kh_W (kh_setE (kh_setH v (kh_h1 v w f)) (kh_clamp (kh_E v + 2) 0 9999)) = kh_W v from rfl]
        rw [a3.H]
        have a4 := a3.wH (x := kh_h1 v w f / 2)
        rw [show kh_H (kh_setW (kh_setE (kh_setH v (kh_h1 v w f)) (kh_clamp (kh_E v + 2) 0 9999)) (kh_W v - 4)) = kh_h1 v w f from rfl]
        have o4 : kh_ok (kh_setH (kh_setW (kh_setE (kh_setH v (kh_h1 v w f)) (kh_clamp (kh_E v + 2) 0 9999)) (kh_W v - 4)) (kh_h1 v w f / 2)) := by
          have hW := hv.2.2.2.1
          have h4' := (of_decide_eq_true hb).2
          refine kh_setH_ok (kh_setW_ok (kh_setE_ok (kh_setH_ok hv (kh_clamp_in (by decide))) (kh_clamp_in (by decide))) ?_) (kh_div2_in (kh_clamp_in (by decide)))
          rw [kh_in_iff, ki_0, ki_99] at hW ⊢
          rw [ki_le, ki_4] at h4'
          rw [ki_sub (by omega) (by rw [ki_4]; omega), ki_4]
          omega
        refine kt_H_doubtOf hr a4 o4 hw ?_
        rw [a4.u hw]
        refine ks_H_hearAnswer_106 <| ks_H_hearAnswer_107 (Nat.le_of_ble_eq_true rfl) <| ks_H_hearAnswer_110n (by first | rfl | assumption) (by omega) ?_
        rw [show kh_k (kh_setH (kh_setW (kh_setE (kh_setH v (kh_h1 v w f)) (kh_clamp (kh_E v + 2) 0 9999)) (kh_W v - 4)) (kh_h1 v w f / 2)) = kh_k v from rfl, show kh_u (kh_setH (kh_setW (kh_setE (kh_setH v (kh_h1 v w f)) (kh_clamp (kh_E v + 2) 0 9999)) (kh_W v - 4)) (kh_h1 v w f / 2)) = kh_u v from rfl]
        have hdb := kh_doubt_bd (kh_k v w)
        rw [kh_max0 (s := kh_u v w - kh_doubt (kh_k v w)) (hi := 9) (by rw [ki_sub (by omega) (by omega), ki_9]; omega) (by decide)]
        refine (show kq_S km_H_hearAnswer (d + 4) 111 [some (kq_R r 1), some (kq_I (nI w)), some (kq_I (nI f)), some (kq_I (kq_b true))] [] _ Q from ?_)
        rw [← hb]
        refine lrn _ _ a4.wu ?_ ((((((kq_fr.rf.wI hP1).wI hP1).wI hP1).wI hP1)).wI hP5) rfl rfl rfl rfl rfl ?_
        · exact kh_setu_ok o4 (kh_clamp_in (by decide))
        · intro x
          by_cases ex : x = kh_learn v w f
          · rw [if_pos ex]
            unfold kh_ans
            rw [← ex]
            cases x <;> simp [hb, kh_setn, kh_setu, kh_setH, kh_setW, kh_setE, kh_mk, kh_T, kh_H, kh_W, kh_B, kh_E, kh_m, kh_c, kh_k, kh_n, kh_s, kh_u]
          · rw [if_neg ex]
end KT3
