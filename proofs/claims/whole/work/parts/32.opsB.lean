/-! WHAT EACH CALL DOES (2): what is best; and that the class does so -/
def sp_on (z : kz_S) (n a : Int32) : Int32 × kz_S := if ¬ ((0 ≤ n ∧ n ≤ 200) ∧ (0 ≤ a ∧ a ≤ 2)) then kz_F z 0 else (if a = 0 then kh_H (kh_pass (kh_nat n) (kz_h z)) else if a = 1 then kh_W (kh_pass (kh_nat n) (kz_h z)) else kh_E (kh_pass (kh_nat n) (kz_h z)), z)
def sp_then (z : kz_S) (w n a : Int32) : Int32 × kz_S := if ¬ (kh_wi (kz_h z) w = true ∧ (0 ≤ n ∧ n ≤ 200) ∧ (0 ≤ a ∧ a ≤ 1)) then kz_F z 0 else (if a = 0 then kh_u (kh_pass (kh_nat n) (kz_h z)) (kh_nat w) else kh_n (kh_pass (kh_nat n) (kz_h z)) (kh_nat w), z)
/-- the first minute that boils -/
def kg_fb : Nat → Nat → kh_S → Option Nat
  | 0, _, _ => none
  | j + 1, n, v => if kh_minB v then some n else kg_fb j (n + 1) (kh_min v)
/-- the first minute behind which w isn't sure at all -/
def kg_fd (w : Nat) : Nat → Nat → kh_S → Option Nat
  | 0, _, _ => none
  | j + 1, n, v => if kh_u v w = 0 then some n else kg_fd w j (n + 1) (kh_min v)
def kg_amax (g : Nat → Int32) : Nat → Nat → Int32 → Int32 → Int32
  | 0, _, b, _ => b
  | n + 1, i, b, m => if m < g i then kg_amax g n (i + 1) (nI i) (g i) else kg_amax g n (i + 1) b m
def kg_amin (g : Nat → Int32) : Nat → Nat → Int32 → Int32 → Int32
  | 0, _, b, _ => b
  | n + 1, i, b, m => if g i < m then kg_amin g n (i + 1) (nI i) (g i) else kg_amin g n (i + 1) b m
def kg_tin (g : Nat → Nat → Int32) (w : Nat) : Nat → Nat → Int32 → Int32 → Int32 × Int32
  | 0, _, b, m => (b, m)
  | n + 1, o, b, m => if m < g w o then kg_tin g w n (o + 1) (10 * nI w + nI o) (g w o) else kg_tin g w n (o + 1) b m
def kg_tout (g : Nat → Nat → Int32) (c : Nat) : Nat → Nat → Int32 → Int32 → Int32
  | 0, _, b, _ => b
  | n + 1, w, b, m => kg_tout g c n (w + 1) (kg_tin g w (c - (w + 1)) (w + 1) b m).1 (kg_tin g w (c - (w + 1)) (w + 1) b m).2
def kg_sd (g : Nat → Int32) (t : Int32) : Nat → Option Nat
  | 0 => none
  | n + 1 => if g n ≤ t then some n else kg_sd g t n
def kg_su (g : Nat → Int32) (x : Int32) : Nat → Nat → Option Nat
  | 0, _ => none
  | n + 1, i => if x ≤ g i then some i else kg_su g x n (i + 1)
def kz_opt (z : kz_S) (o : Option Nat) : Int32 × kz_S := match o with
  | none => kz_F z 3
  | some n => (nI n, z)
def sp_boils (z : kz_S) : Int32 × kz_S := kz_opt z (kg_fb 200 1 (kz_h z))
def sp_doubts (z : kz_S) (w : Int32) : Int32 × kz_S := if kh_wi (kz_h z) w = false then kz_F z 0 else kz_opt z (kg_fd (kh_nat w) 201 0 (kz_h z))
def sp_worst (z : kz_S) (w : Int32) : Int32 × kz_S := if kh_wi (kz_h z) w = false then kz_F z 0 else (kg_amax (fun f => kh_H (kh_ans (kz_h z) (kh_nat w) f)) 8 0 0 (-1), z)
def sp_turns (z : kz_S) (n : Int32) : Int32 × kz_S := if ¬ (1 ≤ n ∧ n ≤ 60) then kz_F z 0 else if kg_tout (fun w o => kh_E (kh_pass (kh_nat n) (kh_swap (kz_h z) w o))) (kh_c (kz_h z)) (kh_c (kz_h z)) 0 (-1) (kh_E (kh_pass (kh_nat n) (kz_h z))) < 0 then kz_F z 3 else (kg_tout (fun w o => kh_E (kh_pass (kh_nat n) (kh_swap (kz_h z) w o))) (kh_c (kz_h z)) (kh_c (kz_h z)) 0 (-1) (kh_E (kh_pass (kh_nat n) (kz_h z))), z)
def sp_sure (z : kz_S) (w n : Int32) : Int32 × kz_S := if ¬ (kh_wi (kz_h z) w = true ∧ 1 ≤ n ∧ n ≤ 60) then kz_F z 0 else kz_opt z (kg_sd (fun y => kh_E (kh_pass (kh_nat n) (kh_setu (kz_h z) (kh_nat w) (nI y)))) (kh_E (kz_h z)) 10)
def sp_water (z : kz_S) (n x : Int32) : Int32 × kz_S := if ¬ ((1 ≤ n ∧ n ≤ 60) ∧ 0 ≤ x ∧ x ≤ 9999) then kz_F z 0 else kz_opt z (kg_su (fun y => kh_E (kh_pass (kh_nat n) (kh_setW (kz_h z) (nI y)))) x 100 0)
def sp_kind (z : kz_S) (w n : Int32) : Int32 × kz_S := if ¬ (kh_wi (kz_h z) w = true ∧ 1 ≤ n ∧ n ≤ 60) then kz_F z 0 else (kg_amin (fun y => kh_E (kh_pass (kh_nat n) (kh_setk (kz_h z) (kh_nat w) (nI y)))) 6 0 0 10000, z)
def sp_says (z : kz_S) (w n : Int32) : Int32 × kz_S := if ¬ (kh_wi (kz_h z) w = true ∧ 1 ≤ n ∧ n ≤ 20) then kz_F z 0 else (kg_amin (fun y => kh_E (kh_pass (kh_nat n) (kh_sets (kz_h z) (kh_nat w) (nI y)))) 256 0 0 10000, z)
def sp_fact (z : kz_S) (n : Int32) : Int32 × kz_S := if ¬ (1 ≤ n ∧ n ≤ 60) then kz_F z 0 else (kg_amax (fun f => kh_E (kh_pass (kh_nat n) (kh_setT (kz_h z) (kh_T (kz_h z) ^^^ ((1 : Int32) <<< (nI f &&& 31)))))) 8 0 0 (-1), z)
theorem kn_xor (a b : Nat) : nI a ^^^ nI b = nI (a ^^^ b) := by
  apply Int32.toBitVec_inj.1
  show BitVec.ofNat 32 a ^^^ BitVec.ofNat 32 b = BitVec.ofNat 32 (a ^^^ b)
  apply BitVec.eq_of_getLsbD_eq
  intro i hi
  simp [hi]
theorem kh_xor255 {x : Int32} {f : Nat} (h : kh_in x 0 255) (hf : f < 8) : kh_in (x ^^^ ((1 : Int32) <<< (nI f &&& 31))) 0 255 := by
  obtain ⟨a, ha, rfl⟩ := kh_in_nI h (n := 255) ki_255
  rw [kn_shl hf, kn_xor]
  have h1 : a ^^^ 2 ^ f < 2 ^ 8 := Nat.xor_lt_two_pow (by omega) (Nat.pow_lt_pow_of_lt (by decide) hf)
  exact kh_in_of 255 (by omega) (by decide) ki_255
section KO2
variable {z : kz_S} {w n a x : Int32}
theorem kK_e2 : ¬ (1 : Nat) = 2 := by decide
theorem ko_K_on (hz : kz_ok z) : kK_ct km_K_on [kq_I n, kq_I a] z (sp_on z n a).2 (kq_I (sp_on z n a).1) := by
  intro μ Q ha k
  have hv := hz.1.1
  have hm := hz.1.2
  have fin : (sp_on z n a = kz_F z 0) → kq_S km_K_on 11 20 [some (kq_R 0 0), some (kq_I n), some (kq_I a), none] [] μ Q := by
    intro e
    rw [e] at k
    refine ks_K_on_20 <| ks_K_on_21 <| ks_K_on_22 (Nat.le_of_ble_eq_true rfl) ?_
    refine kt_K_fin 0 ha (by decide) (fun μ' a1 f1 => ?_)
    refine ks_K_on_25 ?_
    exact k μ' a1 f1
  refine ke_K_on ?_
  refine ks_K_on_0 <| ks_K_on_1 <| ks_K_on_2 <| ks_K_on_5 (Nat.le_of_ble_eq_true rfl) ?_
  refine kt_K_isWithin ?_
  refine ks_K_on_8 (fun h8 => ?_) (fun h8 => ?_)
  · have h := of_decide_eq_false (kq_b_f h8)
    exact fin (if_pos (fun q => h q.1))
  · have hn := of_decide_eq_true (kq_b_t h8)
    refine ks_K_on_11 <| ks_K_on_12 <| ks_K_on_13 <| ks_K_on_14 (Nat.le_of_ble_eq_true rfl) ?_
    refine kt_K_isWithin ?_
    refine ks_K_on_17 (fun h17 => ?_) (fun h17 => ?_)
    · have hw := of_decide_eq_true (kq_b_t h17)
      have e0 : sp_on z n a = _ := if_neg (fun q => q ⟨hn, hw⟩)
      obtain ⟨j, hj, rfl⟩ := kn_of_le (c := 200) (by decide) (by decide) hn
      rw [kh_nat_nI (by omega)] at e0
      rw [e0] at k
      refine ks_K_on_26 <| ks_K_on_27 <| ks_K_on_30 <| ks_K_on_31 <| ks_K_on_34 (by first | rfl | assumption) (Nat.le_of_ble_eq_true rfl) ?_
      refine kt_H_become rfl rfl (by decide) ha.h hv (fun μ1 a1 f1 => ?_)
      refine ks_K_on_37 <| ks_K_on_38 <| ks_K_on_41 <| ks_K_on_42 (by first | rfl | assumption) (Nat.le_of_ble_eq_true rfl) ?_
      refine kt_H_teaAfter rfl a1 hv (by omega) (fun μ2 a2 f2 => ?_)
      have k1 := k μ2 (ha.trial (f1.tr f2)) (kK_frP (kK_fr2 (f1.tr f2)))
      dsimp only at k1
      refine ks_K_on_45 rfl <| ks_K_on_46 <| ks_K_on_47 (fun h47 => ?_) (fun h47 => ?_)
      · rw [if_neg h47] at k1
        refine ks_K_on_60 <| ks_K_on_61 <| ks_K_on_62 (fun h62 => ?_) (fun h62 => ?_)
        · rw [if_neg h62] at k1
          refine ks_K_on_75 <| ks_K_on_76 ?_
          exact k1
        · rw [if_pos h62] at k1
          refine ks_K_on_65 <| ks_K_on_66 <| ks_K_on_69 (by first | rfl | assumption) <| ks_K_on_72 <| ks_K_on_76 ?_
          rw [a2.W]
          exact k1
      · rw [if_pos h47] at k1
        refine ks_K_on_50 <| ks_K_on_51 <| ks_K_on_54 (by first | rfl | assumption) <| ks_K_on_57 <| ks_K_on_76 ?_
        rw [a2.H]
        exact k1
    · have h := of_decide_eq_false (kq_b_f h17)
      exact fin (if_pos (fun q => h q.2))
theorem ko_K_then (hz : kz_ok z) : kK_ct km_K_then [kq_I w, kq_I n, kq_I a] z (sp_then z w n a).2 (kq_I (sp_then z w n a).1) := by
  intro μ Q ha k
  have hv := hz.1.1
  have hm := hz.1.2
  have fin : (sp_then z w n a = kz_F z 0) → kq_S km_K_then 11 28 [some (kq_R 0 0), some (kq_I w), some (kq_I n), some (kq_I a)] [] μ Q := by
    intro e
    rw [e] at k
    refine ks_K_then_28 <| ks_K_then_29 <| ks_K_then_30 (Nat.le_of_ble_eq_true rfl) ?_
    refine kt_K_fin 0 ha (by decide) (fun μ' a1 f1 => ?_)
    refine ks_K_then_33 ?_
    exact k μ' a1 f1
  refine ke_K_then ?_
  refine ks_K_then_0 <| ks_K_then_1 <| ks_K_then_2 (Nat.le_of_ble_eq_true rfl) ?_
  refine kt_K_isWitness ha hv ?_
  refine ks_K_then_5 (fun h5 => ?_) (fun h5 => ?_)
  · have h := kq_b_f h5
    exact fin (if_pos (fun q => by rw [h] at q; cases q.1))
  · have hw := kq_b_t h5
    refine ks_K_then_8 <| ks_K_then_9 <| ks_K_then_10 <| ks_K_then_13 (Nat.le_of_ble_eq_true rfl) ?_
    refine kt_K_isWithin ?_
    refine ks_K_then_16 (fun h16 => ?_) (fun h16 => ?_)
    · have h := of_decide_eq_false (kq_b_f h16)
      exact fin (if_pos (fun q => h q.2.1))
    · have hn := of_decide_eq_true (kq_b_t h16)
      refine ks_K_then_19 <| ks_K_then_20 <| ks_K_then_21 <| ks_K_then_22 (Nat.le_of_ble_eq_true rfl) ?_
      refine kt_K_isWithin ?_
      refine ks_K_then_25 (fun h25 => ?_) (fun h25 => ?_)
      · have hA := of_decide_eq_true (kq_b_t h25)
        have e0 : sp_then z w n a = _ := if_neg (fun q => q ⟨hw, hn, hA⟩)
        obtain ⟨j, hj, rfl⟩ := kn_of_le (c := 200) (by decide) (by decide) hn
        obtain ⟨i, hi, rfl⟩ := kh_wi_ix hv hw
        have hi8 : i < 8 := Nat.lt_of_lt_of_le hi hv.1
        rw [kh_nat_nI (by omega), kh_nat_nI (by omega)] at e0
        rw [e0] at k
        refine ks_K_then_34 <| ks_K_then_35 <| ks_K_then_38 <| ks_K_then_39 <| ks_K_then_42 (by first | rfl | assumption) (Nat.le_of_ble_eq_true rfl) ?_
        refine kt_H_become rfl rfl (by decide) ha.h hv (fun μ1 a1 f1 => ?_)
        refine ks_K_then_45 <| ks_K_then_46 <| ks_K_then_49 <| ks_K_then_50 (by first | rfl | assumption) (Nat.le_of_ble_eq_true rfl) ?_
        refine kt_H_teaAfter rfl a1 hv (by omega) (fun μ2 a2 f2 => ?_)
        have hi2 : i < kh_c (kh_pass j (kz_h z)) := by rw [kh_pass_c]; exact hi
        have k1 := k μ2 (ha.trial (f1.tr f2)) (kK_frP (kK_fr2 (f1.tr f2)))
        dsimp only at k1
        refine ks_K_then_53 rfl <| ks_K_then_54 <| ks_K_then_55 (fun h55 => ?_) (fun h55 => ?_)
        · rw [if_neg h55] at k1
          refine ks_K_then_70 <| ks_K_then_71 <| ks_K_then_74 (by first | rfl | assumption) <| ks_K_then_77 <| ks_K_then_78n (by first | rfl | assumption) (by omega) <| ks_K_then_79 ?_
          rw [a2.n hi2]
          exact k1
        · rw [if_pos h55] at k1
          refine ks_K_then_58 <| ks_K_then_59 <| ks_K_then_62 (by first | rfl | assumption) <| ks_K_then_65 <| ks_K_then_66n (by first | rfl | assumption) (by omega) <| ks_K_then_67 <| ks_K_then_79 ?_
          rw [a2.u hi2]
          exact k1
      · have h := of_decide_eq_false (kq_b_f h25)
        exact fin (if_pos (fun q => h q.2.2))
theorem ko_K_boils (hz : kz_ok z) : kK_ct km_K_boils [] z (sp_boils z).2 (kq_I (sp_boils z).1) := by
  intro μ Q ha k
  have hv := hz.1.1
  have hm := hz.1.2
  have loop : ∀ (j i : Nat) (μ1 : kq_M) (v1 : kh_S), i + j = 201 → kc_at μ1 2 v1 → kh_ok v1 → kh_m v1 + j < 1000000 → kq_fr (kc_P 2) μ μ1 → kg_fb j i v1 = kg_fb 200 1 (kz_h z) → kq_S km_K_boils 11 13 [some (kq_R 0 0), some (kq_I (nI i))] [] μ1 Q := by
    intro j
    induction j with
    | zero =>
      intro i μ1 v1 hi a1 o1 hm1 f1 hg
      refine ks_K_boils_13 <| ks_K_boils_14 <| ks_K_boils_17 (fun h17 => ?_) (fun h17 => ?_)
      · rw [show sp_boils z = kz_F z 3 by unfold sp_boils; rw [← hg]; rfl] at k
        refine ks_K_boils_38 <| ks_K_boils_39 <| ks_K_boils_40 (Nat.le_of_ble_eq_true rfl) ?_
        refine kt_K_fin 3 (ha.trial f1) (by decide) (fun μ' a2 f2 => ?_)
        refine ks_K_boils_43 ?_
        exact k μ' a2 ((kK_frP (kK_fr2 f1)).tr f2)
      · exact absurd (show (200 : Int32) < nI i by rw [ki_lt, ki_200, nI_toInt (by omega)]; omega) h17
    | succ j ih =>
      intro i μ1 v1 hi a1 o1 hm1 f1 hg
      refine ks_K_boils_13 <| ks_K_boils_14 <| ks_K_boils_17 (fun h17 => ?_) (fun h17 => ?_)
      · rw [ki_lt, ki_200, nI_toInt (by omega)] at h17
        omega
      · refine ks_K_boils_20 <| ks_K_boils_21 <| ks_K_boils_24 (by first | rfl | assumption) (Nat.le_of_ble_eq_true rfl) ?_
        refine kt_H_passMinute rfl a1 o1 (fun μ2 a2 f2 => ?_)
        refine ks_K_boils_27 (fun h27 => ?_) (fun h27 => ?_)
        · have hb := kq_b_f h27
          refine ks_K_boils_32n rfl <| ks_K_boils_35 ?_
          refine ih (i + 1) μ2 (kh_min v1) (by omega) a2 (kh_min_ok o1 (by omega)) (by rw [kh_min_m]; omega) (f1.tr f2) ?_
          rw [← hg]
          show _ = if kh_minB v1 then some i else kg_fb j (i + 1) (kh_min v1)
          rw [if_neg (by rw [hb]; decide)]
        · have hb := kq_b_t h27
          refine ks_K_boils_30 <| ks_K_boils_31 ?_
          rw [show sp_boils z = (nI i, z) by
            unfold sp_boils
            rw [← hg]
            show kz_opt z (if kh_minB v1 then some i else kg_fb j (i + 1) (kh_min v1)) = _
            rw [if_pos hb]; rfl] at k
          exact k μ2 (ha.trial (f1.tr f2)) (kK_frP (kK_fr2 (f1.tr f2)))
  refine ke_K_boils ?_
  refine ks_K_boils_0 <| ks_K_boils_1 <| ks_K_boils_4 <| ks_K_boils_5 <| ks_K_boils_8 (by first | rfl | assumption) (Nat.le_of_ble_eq_true rfl) ?_
  refine kt_H_become rfl rfl (by decide) ha.h hv (fun μ1 a1 f1 => ?_)
  refine ks_K_boils_11 <| ks_K_boils_12 rfl ?_
  exact loop 200 1 μ1 (kz_h z) rfl a1 hv (by omega) f1 rfl
theorem ko_K_doubts (hz : kz_ok z) : kK_ct km_K_doubts [kq_I w] z (sp_doubts z w).2 (kq_I (sp_doubts z w).1) := by
  intro μ Q ha k
  have hv := hz.1.1
  have hm := hz.1.2
  refine ke_K_doubts ?_
  refine ks_K_doubts_0 <| ks_K_doubts_1 <| ks_K_doubts_2 (Nat.le_of_ble_eq_true rfl) ?_
  refine kt_K_isWitness ha hv ?_
  refine ks_K_doubts_5 (fun h5 => ?_) (fun h5 => ?_)
  · have hw := kq_b_t h5
    have e0 : sp_doubts z w = _ := if_neg (by rw [hw]; decide)
    obtain ⟨q, hq, rfl⟩ := kh_wi_ix hv hw
    have hq8 : q < 8 := Nat.lt_of_lt_of_le hq hv.1
    rw [kh_nat_nI (by omega)] at e0
    rw [e0] at k
    have loop : ∀ (j i : Nat) (μ1 : kq_M) (v1 : kh_S), i + j = 201 → kc_at μ1 2 v1 → kh_ok v1 → kh_c v1 = kh_c (kz_h z) → kh_m v1 + j < 1000000 → kq_fr (kc_P 2) μ μ1 → kg_fd q j i v1 = kg_fd q 201 0 (kz_h z) → kq_S km_K_doubts 11 27 [some (kq_R 0 0), some (kq_I (nI q)), some (kq_I (nI i))] [] μ1 Q := by
      intro j
      induction j with
      | zero =>
        intro i μ1 v1 hi a1 o1 hc1 hm1 f1 hg
        rw [← hg] at k
        refine ks_K_doubts_27 <| ks_K_doubts_28 <| ks_K_doubts_31 (fun h31 => ?_) (fun h31 => ?_)
        · refine ks_K_doubts_62 <| ks_K_doubts_63 <| ks_K_doubts_64 (Nat.le_of_ble_eq_true rfl) ?_
          refine kt_K_fin 3 (ha.trial f1) (by decide) (fun μ' a2 f2 => ?_)
          refine ks_K_doubts_67 ?_
          exact k μ' a2 ((kK_frP (kK_fr2 f1)).tr f2)
        · exact absurd (show (200 : Int32) < nI i by rw [ki_lt, ki_200, nI_toInt (by omega)]; omega) h31
      | succ j ih =>
        intro i μ1 v1 hi a1 o1 hc1 hm1 f1 hg
        have hq1 : q < kh_c v1 := by rw [hc1]; exact hq
        refine ks_K_doubts_27 <| ks_K_doubts_28 <| ks_K_doubts_31 (fun h31 => ?_) (fun h31 => ?_)
        · rw [ki_lt, ki_200, nI_toInt (by omega)] at h31
          omega
        · refine ks_K_doubts_34 <| ks_K_doubts_35 <| ks_K_doubts_38 (by first | rfl | assumption) <| ks_K_doubts_41 <| ks_K_doubts_42n (by first | rfl | assumption) (by omega) <| ks_K_doubts_43 (fun h43 => ?_) (fun h43 => ?_)
          · rw [a1.u hq1] at h43
            refine ks_K_doubts_48 <| ks_K_doubts_49 <| ks_K_doubts_52 (by first | rfl | assumption) (Nat.le_of_ble_eq_true rfl) ?_
            refine kt_H_passMinute rfl a1 o1 (fun μ2 a2 f2 => ?_)
            refine ks_K_doubts_55 rfl <| ks_K_doubts_56n rfl <| ks_K_doubts_59 ?_
            refine ih (i + 1) μ2 (kh_min v1) (by omega) a2 (kh_min_ok o1 (by omega)) ((kh_min_c v1).trans hc1) (by rw [kh_min_m]; omega) (f1.tr f2) ?_
            rw [← hg]
            show _ = if kh_u v1 q = 0 then some i else kg_fd q j (i + 1) (kh_min v1)
            rw [if_neg h43]
          · rw [a1.u hq1] at h43
            refine ks_K_doubts_46 <| ks_K_doubts_47 ?_
            rw [← hg, show kg_fd q (j + 1) i v1 = some i from if_pos h43] at k
            exact k μ1 (ha.trial f1) (kK_frP (kK_fr2 f1))
    refine ks_K_doubts_14 <| ks_K_doubts_15 <| ks_K_doubts_18 <| ks_K_doubts_19 <| ks_K_doubts_22 (by first | rfl | assumption) (Nat.le_of_ble_eq_true rfl) ?_
    refine kt_H_become rfl rfl (by decide) ha.h hv (fun μ1 a1 f1 => ?_)
    refine ks_K_doubts_25 <| ks_K_doubts_26 rfl ?_
    exact loop 201 0 μ1 (kz_h z) rfl a1 hv rfl (by omega) f1 rfl
  · have hw := kq_b_f h5
    rw [show sp_doubts z w = _ from if_pos hw] at k
    refine ks_K_doubts_8 <| ks_K_doubts_9 <| ks_K_doubts_10 (Nat.le_of_ble_eq_true rfl) ?_
    refine kt_K_fin 0 ha (by decide) (fun μ' a1 f1 => ?_)
    refine ks_K_doubts_13 ?_
    exact k μ' a1 f1
theorem ko_K_worst (hz : kz_ok z) : kK_ct km_K_worst [kq_I w] z (sp_worst z w).2 (kq_I (sp_worst z w).1) := by
  intro μ Q ha k
  have hv := hz.1.1
  refine ke_K_worst ?_
  refine ks_K_worst_0 <| ks_K_worst_1 <| ks_K_worst_2 (Nat.le_of_ble_eq_true rfl) ?_
  refine kt_K_isWitness ha hv ?_
  refine ks_K_worst_5 (fun h5 => ?_) (fun h5 => ?_)
  · have hw := kq_b_t h5
    have e0 : sp_worst z w = _ := if_neg (by rw [hw]; decide)
    obtain ⟨q, hq, rfl⟩ := kh_wi_ix hv hw
    have hq8 : q < 8 := Nat.lt_of_lt_of_le hq hv.1
    rw [kh_nat_nI (by omega)] at e0
    rw [e0] at k
    have loop : ∀ (j i : Nat) (b m : Int32) (μ1 : kq_M), i + j = 8 → kq_fr (kc_P 2) μ μ1 → kg_amax (fun f => kh_H (kh_ans (kz_h z) q f)) j i b m = kg_amax (fun f => kh_H (kh_ans (kz_h z) q f)) 8 0 0 (-1) → kq_S km_K_worst 11 21 [some (kq_R 0 0), some (kq_I (nI q)), some (kq_I b), some (kq_I m), some (kq_I (nI i))] [] μ1 Q := by
      intro j
      induction j with
      | zero =>
        intro i b m μ1 hi f1 hg
        rw [← hg] at k
        refine ks_K_worst_21 <| ks_K_worst_23 <| ks_K_worst_25 (fun h25 => ?_) (fun h25 => ?_)
        · refine ks_K_worst_78 <| ks_K_worst_79 ?_
          exact k μ1 (ha.trial f1) (kK_frP (kK_fr2 f1))
        · exact absurd (show (8 : Int32) ≤ nI i by rw [ki_le, ki_8, nI_toInt (by omega)]; omega) h25
      | succ j ih =>
        intro i b m μ1 hi f1 hg
        refine ks_K_worst_21 <| ks_K_worst_23 <| ks_K_worst_25 (fun h25 => ?_) (fun h25 => ?_)
        · rw [ki_le, ki_8, nI_toInt (by omega)] at h25
          omega
        · refine ks_K_worst_28 <| ks_K_worst_29 <| ks_K_worst_32 <| ks_K_worst_33 <| ks_K_worst_36 (by first | rfl | assumption) (Nat.le_of_ble_eq_true rfl) ?_
          refine kt_H_become rfl rfl (by decide) (ha.trial f1).h hv (fun μ2 a2 f2 => ?_)
          refine ks_K_worst_39 <| ks_K_worst_40 <| ks_K_worst_43 <| ks_K_worst_44 <| ks_K_worst_46 (by first | rfl | assumption) (Nat.le_of_ble_eq_true rfl) ?_
          refine kt_H_hearAnswer rfl a2 hv hq (by omega) (fun μ3 a3 f3 => ?_)
          refine ks_K_worst_49 rfl <| ks_K_worst_50 <| ks_K_worst_51 <| ks_K_worst_54 (by first | rfl | assumption) <| ks_K_worst_57 <| ks_K_worst_58 (fun h58 => ?_) (fun h58 => ?_)
          · rw [a3.H] at h58
            refine ks_K_worst_72n rfl <| ks_K_worst_75 ?_
            refine ih (i + 1) b m μ3 (by omega) ((f1.tr f2).tr f3) ?_
            rw [← hg]
            show _ = if m < kh_H (kh_ans (kz_h z) q i) then _ else _
            rw [if_neg (by rw [ki_lt]; rw [ki_le] at h58; omega)]
          · rw [a3.H] at h58
            refine ks_K_worst_61 <| ks_K_worst_62 <| ks_K_worst_65 (by first | rfl | assumption) <| ks_K_worst_68 rfl <| ks_K_worst_69 <| ks_K_worst_71 rfl <| ks_K_worst_72n rfl <| ks_K_worst_75 ?_
            rw [a3.H]
            refine ih (i + 1) _ _ μ3 (by omega) ((f1.tr f2).tr f3) ?_
            rw [← hg]
            show _ = if m < kh_H (kh_ans (kz_h z) q i) then _ else _
            rw [if_pos (by rw [ki_lt]; rw [ki_le] at h58; omega)]
    refine ks_K_worst_14 <| ks_K_worst_15 rfl <| ks_K_worst_16 <| ks_K_worst_17 rfl <| ks_K_worst_18 <| ks_K_worst_19 rfl ?_
    exact loop 8 0 0 (-1) μ rfl kq_fr.rf rfl
  · have hw := kq_b_f h5
    rw [show sp_worst z w = _ from if_pos hw] at k
    refine ks_K_worst_8 <| ks_K_worst_9 <| ks_K_worst_10 (Nat.le_of_ble_eq_true rfl) ?_
    refine kt_K_fin 0 ha (by decide) (fun μ' a1 f1 => ?_)
    refine ks_K_worst_13 ?_
    exact k μ' a1 f1
theorem ko_K_sure (hz : kz_ok z) : kK_ct km_K_sure [kq_I w, kq_I n] z (sp_sure z w n).2 (kq_I (sp_sure z w n).1) := by
  intro μ Q ha k
  have hv := hz.1.1
  have hm := hz.1.2
  have fin : (sp_sure z w n = kz_F z 0) → kq_S km_K_sure 11 18 [some (kq_R 0 0), some (kq_I w), some (kq_I n), none] [] μ Q := by
    intro e
    rw [e] at k
    refine ks_K_sure_18 <| ks_K_sure_19 <| ks_K_sure_20 (Nat.le_of_ble_eq_true rfl) ?_
    refine kt_K_fin 0 ha (by decide) (fun μ' a1 f1 => ?_)
    refine ks_K_sure_23 ?_
    exact k μ' a1 f1
  refine ke_K_sure ?_
  refine ks_K_sure_0 <| ks_K_sure_1 <| ks_K_sure_2 (Nat.le_of_ble_eq_true rfl) ?_
  refine kt_K_isWitness ha hv ?_
  refine ks_K_sure_5 (fun h5 => ?_) (fun h5 => ?_)
  · have h := kq_b_f h5
    exact fin (if_pos (fun q => by rw [h] at q; cases q.1))
  · have hw := kq_b_t h5
    refine ks_K_sure_8 <| ks_K_sure_9 <| ks_K_sure_10 <| ks_K_sure_12 (Nat.le_of_ble_eq_true rfl) ?_
    refine kt_K_isWithin ?_
    refine ks_K_sure_15 (fun h15 => ?_) (fun h15 => ?_)
    · have hn := of_decide_eq_true (kq_b_t h15)
      have e0 : sp_sure z w n = _ := if_neg (fun q => q ⟨hw, hn⟩)
      obtain ⟨p, hp, rfl⟩ := kn_of_le (c := 60) (by decide) (by decide) hn
      obtain ⟨q, hq, rfl⟩ := kh_wi_ix hv hw
      have hq8 : q < 8 := Nat.lt_of_lt_of_le hq hv.1
      rw [kh_nat_nI (by omega), kh_nat_nI (by omega)] at e0
      rw [e0] at k
      have out : ∀ (y : Int32) (μ1 : kq_M), y < 0 → kq_fr (kc_P 2) μ μ1 → kg_sd (fun y => kh_E (kh_pass p (kh_setu (kz_h z) q (nI y)))) (kh_E (kz_h z)) 10 = none → kq_S km_K_sure 11 27 [some (kq_R 0 0), some (kq_I (nI q)), some (kq_I (nI p)), some (kq_I y)] [] μ1 Q := by
        intro y μ1 hy f1 hg
        rw [hg] at k
        refine ks_K_sure_27 <| ks_K_sure_28 (fun h28 => ?_) (fun h28 => ?_)
        · refine ks_K_sure_78 <| ks_K_sure_79 <| ks_K_sure_80 (Nat.le_of_ble_eq_true rfl) ?_
          refine kt_K_fin 3 (ha.trial f1) (by decide) (fun μ' a2 f2 => ?_)
          refine ks_K_sure_83 ?_
          exact k μ' a2 ((kK_frP (kK_fr2 f1)).tr f2)
        · exact absurd hy h28
      have loop : ∀ (j : Nat) (μ1 : kq_M), j ≤ 9 → kq_fr (kc_P 2) μ μ1 → kg_sd (fun y => kh_E (kh_pass p (kh_setu (kz_h z) q (nI y)))) (kh_E (kz_h z)) (j + 1) = kg_sd (fun y => kh_E (kh_pass p (kh_setu (kz_h z) q (nI y)))) (kh_E (kz_h z)) 10 → kq_S km_K_sure 11 27 [some (kq_R 0 0), some (kq_I (nI q)), some (kq_I (nI p)), some (kq_I (nI j))] [] μ1 Q := by
        intro j
        induction j with
        | zero =>
          intro μ1 hj f1 hg
          refine ks_K_sure_27 <| ks_K_sure_28 (fun h28 => ?_) (fun h28 => ?_)
          · exact absurd h28 (by decide)
          · refine ks_K_sure_31 <| ks_K_sure_32 <| ks_K_sure_35 <| ks_K_sure_36 <| ks_K_sure_39 (by first | rfl | assumption) (Nat.le_of_ble_eq_true rfl) ?_
            refine kt_H_become rfl rfl (by decide) (ha.trial f1).h hv (fun μ2 a2 f2 => ?_)
            refine ks_K_sure_42 <| ks_K_sure_43 <| ks_K_sure_46 (by first | rfl | assumption) <| ks_K_sure_49 <| ks_K_sure_50 <| ks_K_sure_51n (by first | rfl | assumption) (by omega) <| ks_K_sure_52 <| ks_K_sure_53 <| ks_K_sure_56 <| ks_K_sure_57 (by first | rfl | assumption) (Nat.le_of_ble_eq_true rfl) ?_
            refine kt_H_teaAfter rfl a2.wu (kh_setu_ok hv (kh_in_of 9 hj (by decide) ki_9)) (show kh_m (kz_h z) + p < 1000000 by omega) (fun μ3 a3 f3 => ?_)
            have f4 : kq_fr (kc_P 2) μ μ3 := ((f1.tr f2).wI (show kc_P 2 2 5 from ⟨rfl, by decide, by decide⟩)).tr f3
            refine ks_K_sure_60 <| ks_K_sure_61 <| ks_K_sure_64 (by first | rfl | assumption) <| ks_K_sure_67 (fun h67 => ?_) (fun h67 => ?_)
            · rw [(ha.trial f4).h.E] at h67
              refine ks_K_sure_72 rfl <| ks_K_sure_75 ?_
              refine out _ μ3 (by decide) f4 ?_
              rw [← hg]
              show (if _ ≤ _ then _ else _) = none
              rw [if_neg (by dsimp only; rw [ki_le]; rw [ki_lt] at h67; omega)]
              rfl
            · rw [(ha.trial f4).h.E] at h67
              refine ks_K_sure_70 <| ks_K_sure_71 ?_
              rw [← hg, show kg_sd (fun y => kh_E (kh_pass p (kh_setu (kz_h z) q (nI y)))) (kh_E (kz_h z)) (0 + 1) = some 0 from if_pos (by dsimp only; rw [ki_le]; rw [ki_lt] at h67; omega)] at k
              exact k μ3 (ha.trial f4) (kK_frP (kK_fr2 f4))
        | succ j ih =>
          intro μ1 hj f1 hg
          refine ks_K_sure_27 <| ks_K_sure_28 (fun h28 => ?_) (fun h28 => ?_)
          · exact absurd h28 (nI_pos (by omega))
          · refine ks_K_sure_31 <| ks_K_sure_32 <| ks_K_sure_35 <| ks_K_sure_36 <| ks_K_sure_39 (by first | rfl | assumption) (Nat.le_of_ble_eq_true rfl) ?_
            refine kt_H_become rfl rfl (by decide) (ha.trial f1).h hv (fun μ2 a2 f2 => ?_)
            refine ks_K_sure_42 <| ks_K_sure_43 <| ks_K_sure_46 (by first | rfl | assumption) <| ks_K_sure_49 <| ks_K_sure_50 <| ks_K_sure_51n (by first | rfl | assumption) (by omega) <| ks_K_sure_52 <| ks_K_sure_53 <| ks_K_sure_56 <| ks_K_sure_57 (by first | rfl | assumption) (Nat.le_of_ble_eq_true rfl) ?_
            refine kt_H_teaAfter rfl a2.wu (kh_setu_ok hv (kh_in_of 9 hj (by decide) ki_9)) (show kh_m (kz_h z) + p < 1000000 by omega) (fun μ3 a3 f3 => ?_)
            have f4 : kq_fr (kc_P 2) μ μ3 := ((f1.tr f2).wI (show kc_P 2 2 5 from ⟨rfl, by decide, by decide⟩)).tr f3
            refine ks_K_sure_60 <| ks_K_sure_61 <| ks_K_sure_64 (by first | rfl | assumption) <| ks_K_sure_67 (fun h67 => ?_) (fun h67 => ?_)
            · rw [(ha.trial f4).h.E] at h67
              refine ks_K_sure_72n rfl <| ks_K_sure_75 ?_
              refine ih μ3 (by omega) f4 ?_
              rw [← hg]
              show _ = if _ ≤ _ then _ else _
              rw [if_neg (by dsimp only; rw [ki_le]; rw [ki_lt] at h67; omega)]
            · rw [(ha.trial f4).h.E] at h67
              refine ks_K_sure_70 <| ks_K_sure_71 ?_
              rw [← hg, show kg_sd (fun y => kh_E (kh_pass p (kh_setu (kz_h z) q (nI y)))) (kh_E (kz_h z)) (j + 1 + 1) = some (j + 1) from if_pos (by dsimp only; rw [ki_le]; rw [ki_lt] at h67; omega)] at k
              exact k μ3 (ha.trial f4) (kK_frP (kK_fr2 f4))
      refine ks_K_sure_24 <| ks_K_sure_26 rfl ?_
      exact loop 9 μ (by omega) kq_fr.rf rfl
    · have h := of_decide_eq_false (kq_b_f h15)
      exact fin (if_pos (fun q => h q.2))
theorem ko_K_water (hz : kz_ok z) : kK_ct km_K_water [kq_I n, kq_I x] z (sp_water z n x).2 (kq_I (sp_water z n x).1) := by
  intro μ Q ha k
  have hv := hz.1.1
  have hm := hz.1.2
  have fin : (sp_water z n x = kz_F z 0) → kq_S km_K_water 11 21 [some (kq_R 0 0), some (kq_I n), some (kq_I x), none] [] μ Q := by
    intro e
    rw [e] at k
    refine ks_K_water_21 <| ks_K_water_22 <| ks_K_water_23 (Nat.le_of_ble_eq_true rfl) ?_
    refine kt_K_fin 0 ha (by decide) (fun μ' a1 f1 => ?_)
    refine ks_K_water_26 ?_
    exact k μ' a1 f1
  refine ke_K_water ?_
  refine ks_K_water_0 <| ks_K_water_1 <| ks_K_water_2 <| ks_K_water_4 (Nat.le_of_ble_eq_true rfl) ?_
  refine kt_K_isWithin ?_
  refine ks_K_water_7 (fun h7 => ?_) (fun h7 => ?_)
  · have h := of_decide_eq_false (kq_b_f h7)
    exact fin (if_pos (fun q => h q.1))
  · have hn := of_decide_eq_true (kq_b_t h7)
    refine ks_K_water_10 <| ks_K_water_11 <| ks_K_water_12 <| ks_K_water_15 (Nat.le_of_ble_eq_true rfl) ?_
    refine kt_K_isWithin ?_
    refine ks_K_water_18 (fun h18 => ?_) (fun h18 => ?_)
    · have hx := of_decide_eq_true (kq_b_t h18)
      have e0 : sp_water z n x = _ := if_neg (fun q => q ⟨hn, hx⟩)
      obtain ⟨p, hp, rfl⟩ := kn_of_le (c := 60) (by decide) (by decide) hn
      rw [kh_nat_nI (by omega)] at e0
      rw [e0] at k
      have loop : ∀ (j i : Nat) (μ1 : kq_M), i + j = 100 → kq_fr (kc_P 2) μ μ1 → kg_su (fun y => kh_E (kh_pass p (kh_setW (kz_h z) (nI y)))) x j i = kg_su (fun y => kh_E (kh_pass p (kh_setW (kz_h z) (nI y)))) x 100 0 → kq_S km_K_water 11 29 [some (kq_R 0 0), some (kq_I (nI p)), some (kq_I x), some (kq_I (nI i))] [] μ1 Q := by
        intro j
        induction j with
        | zero =>
          intro i μ1 hi f1 hg
          rw [← hg] at k
          refine ks_K_water_29 <| ks_K_water_30 <| ks_K_water_32 (fun h32 => ?_) (fun h32 => ?_)
          · refine ks_K_water_74 <| ks_K_water_75 <| ks_K_water_76 (Nat.le_of_ble_eq_true rfl) ?_
            refine kt_K_fin 3 (ha.trial f1) (by decide) (fun μ' a2 f2 => ?_)
            refine ks_K_water_79 ?_
            exact k μ' a2 ((kK_frP (kK_fr2 f1)).tr f2)
          · exact absurd (show (99 : Int32) < nI i by rw [ki_lt, ki_99, nI_toInt (by omega)]; omega) h32
        | succ j ih =>
          intro i μ1 hi f1 hg
          refine ks_K_water_29 <| ks_K_water_30 <| ks_K_water_32 (fun h32 => ?_) (fun h32 => ?_)
          · rw [ki_lt, ki_99, nI_toInt (by omega)] at h32
            omega
          · refine ks_K_water_35 <| ks_K_water_36 <| ks_K_water_39 <| ks_K_water_40 <| ks_K_water_43 (by first | rfl | assumption) (Nat.le_of_ble_eq_true rfl) ?_
            refine kt_H_become rfl rfl (by decide) (ha.trial f1).h hv (fun μ2 a2 f2 => ?_)
            refine ks_K_water_46 <| ks_K_water_47 <| ks_K_water_50 <| ks_K_water_51 (by first | rfl | assumption) <| ks_K_water_54 <| ks_K_water_55 <| ks_K_water_58 <| ks_K_water_59 (by first | rfl | assumption) (Nat.le_of_ble_eq_true rfl) ?_
            refine kt_H_teaAfter rfl a2.wW (kh_setW_ok hv (kh_in_of 99 (by omega) (by decide) ki_99)) (show kh_m (kz_h z) + p < 1000000 by omega) (fun μ3 a3 f3 => ?_)
            have f4 : kq_fr (kc_P 2) μ μ3 := ((f1.tr f2).wI (show kc_P 2 2 1 from ⟨rfl, by decide, by decide⟩)).tr f3
            refine ks_K_water_62 <| ks_K_water_63 (fun h63 => ?_) (fun h63 => ?_)
            · refine ks_K_water_68n rfl <| ks_K_water_71 ?_
              refine ih (i + 1) μ3 (by omega) f4 ?_
              rw [← hg]
              show _ = if _ ≤ _ then _ else _
              rw [if_neg (by dsimp only; rw [ki_le]; rw [ki_lt] at h63; omega)]
            · refine ks_K_water_66 <| ks_K_water_67 ?_
              rw [← hg, show kg_su (fun y => kh_E (kh_pass p (kh_setW (kz_h z) (nI y)))) x (j + 1) i = some i from if_pos (by dsimp only; rw [ki_le]; rw [ki_lt] at h63; omega)] at k
              exact k μ3 (ha.trial f4) (kK_frP (kK_fr2 f4))
      refine ks_K_water_27 <| ks_K_water_28 rfl ?_
      exact loop 100 0 μ rfl kq_fr.rf rfl
    · have h := of_decide_eq_false (kq_b_f h18)
      exact fin (if_pos (fun q => h q.2))
end KO2
