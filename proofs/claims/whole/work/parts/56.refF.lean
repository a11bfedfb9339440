/-! THE REFERENCE: its calls (3) -/
section KM6
variable {z : kz_S} {w a x n s f : Int32}
theorem kt_M_try {d : Nat} {μ : kq_M} {v : kh_S} {Q : Option kq_V → kq_M → Prop} (ha : kr_at μ 21 v) (hc : kh_c v ≤ 8) (k : ∀ μ1, kr_at μ1 21 v → kr_at μ1 23 v → kM_h μ μ1 → Q none μ1) : kq_Call d km_M_moveAll [kq_R 0 20, kq_I 1, kq_R 0 23] μ Q := by
  refine kt_M_keep (i := 23) rfl rfl rfl rfl (by decide) (fun μ1 e1 f1 => ?_)
  exact k μ1 (ha.fr f1 (fun q => by cases q.2)) (ha.cp hc e1) (kM_h.st (by decide) f1)
theorem kt_M_bk {d : Nat} {μ : kq_M} {v : kh_S} {Q : Option kq_V → kq_M → Prop} (ha : kr_at μ 23 v) (hc : kh_c v ≤ 8) (k : ∀ μ1, kr_at μ1 21 v → kr_at μ1 23 v → kM_h μ μ1 → Q none μ1) : kq_Call d km_M_moveAll [kq_R 0 20, kq_I 0, kq_R 0 23] μ Q := by
  refine kt_M_back (i := 23) rfl rfl rfl rfl (by decide) (fun μ1 e1 f1 => ?_)
  exact k μ1 (ha.cp hc e1) (ha.fr f1 (fun q => by cases q.2)) (kM_h.st (by decide) f1)
theorem kM_m.t {μ μ' : kq_M} {v : kh_S} (h : kM_m μ μ') (ha : kr_at μ 23 v) : kr_at μ' 23 v := ha.fr h.1 (fun q => by rcases q.2 with e | e <;> cases e)
theorem ko_M_set (hz : kz_ok z) : kM_ct km_M_set [kq_I w, kq_I a, kq_I x] z (sp_set z w a x).2 (kq_I (sp_set z w a x).1) := by
  intro μ Q ha k
  have hv := hz.1.1
  have hc8 := hv.1
  have no : sp_set z w a x = kz_F z 0 → ∀ o, kq_S km_M_set 11 71 [some (kq_R 0 20), some (kq_I w), some (kq_I a), some (kq_I x), o] [] μ Q := by
    intro h o
    rw [h] at k
    refine ks_M_set_71 <| ks_M_set_72 <| ks_M_set_74 (Nat.le_of_ble_eq_true rfl) ?_
    refine kt_M_fin 0 ha (by decide) (by decide) (fun μ' a1 f1 => ?_)
    refine ks_M_set_77 ?_
    exact k μ' a1 f1
  have mid : ∀ (b : Bool) (o : Option kq_V), (b = true ↔ ((a = 1 ∧ 0 ≤ x ∧ x ≤ 255) ∨ (a = 2 ∧ 0 ≤ x ∧ x ≤ 255) ∨ (a = 3 ∧ 0 ≤ x ∧ x ≤ 9))) → kq_S km_M_set 11 40 [some (kq_R 0 20), some (kq_I w), some (kq_I a), some (kq_I x), o] [kq_I (kq_b b)] μ Q := by
    intro b o hb
    refine ks_M_set_40 rfl <| ks_M_set_42 <| ks_M_set_43 <| ks_M_set_44 (Nat.le_of_ble_eq_true rfl) ?_
    refine kt_M_isOne ha.h hv ?_
    refine ks_M_set_47 (fun h47 => ?_) (fun h47 => ?_)
    · exact no (if_pos (kq_b_f h47)) _
    · have hw := kq_b_t h47
      have e0 : sp_set z w a x = _ := if_neg (by rw [hw]; decide)
      obtain ⟨j, hj, rfl⟩ := kh_wi_ix hv hw
      rw [kh_nat_nI (show j < 2 ^ 31 by omega)] at e0
      refine ks_M_set_50 <| ks_M_set_52 (fun h52 => ?_) (fun h52 => ?_)
      · have hn : ¬ ((a = 1 ∧ 0 ≤ x ∧ x ≤ 255) ∨ (a = 2 ∧ 0 ≤ x ∧ x ≤ 255) ∨ (a = 3 ∧ 0 ≤ x ∧ x ≤ 9)) := fun q => by rw [hb.mpr q] at h52; exact absurd h52 (by decide)
        refine no ?_ _
        rw [e0, if_neg (fun q => hn (Or.inl q)), if_neg (fun q => hn (Or.inr (Or.inl q))), if_neg (fun q => hn (Or.inr (Or.inr q)))]
      · rcases hb.mp (kq_b_t h52) with ⟨rfl, h⟩ | ⟨rfl, h⟩ | ⟨rfl, h⟩
        · rw [if_pos ⟨rfl, h⟩] at e0
          rw [e0] at k
          refine ks_M_set_55 <| ks_M_set_56 <| ks_M_set_58 <| ks_M_set_59 <| ks_M_set_60 <| ks_M_set_61 <| ks_M_set_62 <| ks_M_set_63 <| ks_M_set_64 <| ks_M_set_65 (Nat.le_of_ble_eq_true rfl) ?_
          rw [show 7 + 4 * nI j + 1 = nI (7 + 4 * j + 1) from km_ix (q := 1) (by omega)]
          refine kt_M_becomes (by omega) ?_
          refine ks_M_set_68 <| ks_M_set_77 ?_
          rw [ha.h.n hj]
          exact k _ (ha.hall ha.h.wn kM_h.rf.row) kM_h.rf.row.P
        · rw [if_neg (fun q => absurd q.1 (by decide)), if_pos ⟨rfl, h⟩] at e0
          rw [e0] at k
          refine ks_M_set_55 <| ks_M_set_56 <| ks_M_set_58 <| ks_M_set_59 <| ks_M_set_60 <| ks_M_set_61 <| ks_M_set_62 <| ks_M_set_63 <| ks_M_set_64 <| ks_M_set_65 (Nat.le_of_ble_eq_true rfl) ?_
          rw [show 7 + 4 * nI j + 2 = nI (7 + 4 * j + 2) from km_ix (q := 2) (by omega)]
          refine kt_M_becomes (by omega) ?_
          refine ks_M_set_68 <| ks_M_set_77 ?_
          rw [ha.h.s hj]
          exact k _ (ha.hall ha.h.ws kM_h.rf.row) kM_h.rf.row.P
        · rw [if_neg (fun q => absurd q.1 (by decide)), if_neg (fun q => absurd q.1 (by decide)), if_pos ⟨rfl, h⟩] at e0
          rw [e0] at k
          refine ks_M_set_55 <| ks_M_set_56 <| ks_M_set_58 <| ks_M_set_59 <| ks_M_set_60 <| ks_M_set_61 <| ks_M_set_62 <| ks_M_set_63 <| ks_M_set_64 <| ks_M_set_65 (Nat.le_of_ble_eq_true rfl) ?_
          rw [show 7 + 4 * nI j + 3 = nI (7 + 4 * j + 3) from km_ix (q := 3) (by omega)]
          refine kt_M_becomes (by omega) ?_
          refine ks_M_set_68 <| ks_M_set_77 ?_
          rw [ha.h.u hj]
          exact k _ (ha.hall ha.h.wu kM_h.rf.row) kM_h.rf.row.P
  refine ke_M_set ?_
  refine ks_M_set_0 <| ks_M_set_1 <| ks_M_set_2 <| ks_M_set_3 (Nat.le_of_ble_eq_true rfl) ?_
  refine kt_M_in ?_
  refine ks_M_set_6 (fun h6 => ?_) (fun h6 => ?_)
  · have h := of_decide_eq_false (kq_b_f h6)
    have n1 : ¬ a = 1 := fun q => h (by rw [q]; decide)
    have n2 : ¬ a = 2 := fun q => h (by rw [q]; decide)
    refine ks_M_set_20 <| ks_M_set_21 <| ks_M_set_22 (fun h22 => ?_) (fun h22 => ?_)
    · refine ks_M_set_39 ?_
      exact mid false none ⟨fun q => absurd q (by decide), fun q => by rcases q with y | y | y; exact absurd y.1 n1; exact absurd y.1 n2; exact absurd y.1 h22⟩
    · refine ks_M_set_25 <| ks_M_set_26 <| ks_M_set_27 <| ks_M_set_29 (Nat.le_of_ble_eq_true rfl) ?_
      refine kt_M_in ?_
      refine ks_M_set_32 (fun h32 => ?_) (fun h32 => ?_)
      · have h9 := of_decide_eq_false (kq_b_f h32)
        refine ks_M_set_39 ?_
        exact mid false none ⟨fun q => absurd q (by decide), fun q => by rcases q with y | y | y; exact absurd y.1 n1; exact absurd y.1 n2; exact absurd y.2 h9⟩
      · have h9 := of_decide_eq_true (kq_b_t h32)
        refine ks_M_set_35 <| ks_M_set_36 ?_
        exact mid true none ⟨fun _ => Or.inr (Or.inr ⟨h22, h9⟩), fun _ => rfl⟩
  · have h := of_decide_eq_true (kq_b_t h6)
    have h12 : a = 1 ∨ a = 2 := by
      rw [ki_le, ki_le, ki_1, ki_2] at h
      rw [ki_eq, ki_eq, ki_1, ki_2]
      omega
    refine ks_M_set_9 <| ks_M_set_10 <| ks_M_set_11 <| ks_M_set_14 (Nat.le_of_ble_eq_true rfl) ?_
    refine kt_M_in ?_
    refine ks_M_set_17 ?_
    refine mid _ none ⟨fun q => ?_, fun q => decide_eq_true ?_⟩
    · have := of_decide_eq_true q
      rcases h12 with e | e
      · exact Or.inl ⟨e, this⟩
      · exact Or.inr (Or.inl ⟨e, this⟩)
    · rcases q with y | y | y
      · exact y.2
      · exact y.2
      · exfalso
        rw [y.1] at h12
        rcases h12 with e | e <;> exact absurd e (by decide)
theorem ko_M_on (hz : kz_ok z) : kM_ct km_M_on [kq_I n, kq_I a] z (sp_on z n a).2 (kq_I (sp_on z n a).1) := by
  intro μ Q ha k
  have hv := hz.1.1
  have hc8 := hv.1
  have hm := hz.1.2
  have no : ¬ ((0 ≤ n ∧ n ≤ 200) ∧ (0 ≤ a ∧ a ≤ 2)) → ∀ o, kq_S km_M_on 11 20 [some (kq_R 0 20), some (kq_I n), some (kq_I a), o] [] μ Q := by
    intro h o
    rw [show sp_on z n a = kz_F z 0 from if_pos h] at k
    refine ks_M_on_20 <| ks_M_on_21 <| ks_M_on_23 (Nat.le_of_ble_eq_true rfl) ?_
    refine kt_M_fin 0 ha (by decide) (by decide) (fun μ' a1 f1 => ?_)
    refine ks_M_on_26 ?_
    exact k μ' a1 f1
  refine ke_M_on ?_
  refine ks_M_on_0 <| ks_M_on_1 <| ks_M_on_2 <| ks_M_on_5 (Nat.le_of_ble_eq_true rfl) ?_
  refine kt_M_in ?_
  refine ks_M_on_8 (fun h8 => ?_) (fun h8 => ?_)
  · exact no (fun q => of_decide_eq_false (kq_b_f h8) q.1) none
  · have h1 := of_decide_eq_true (kq_b_t h8)
    refine ks_M_on_11 <| ks_M_on_12 <| ks_M_on_13 <| ks_M_on_14 (Nat.le_of_ble_eq_true rfl) ?_
    refine kt_M_in ?_
    refine ks_M_on_17 (fun h17 => ?_) (fun h17 => ?_)
    · have h2 := of_decide_eq_true (kq_b_t h17)
      have e0 : sp_on z n a = _ := if_neg (fun q => q ⟨h1, h2⟩)
      obtain ⟨j, hj, rfl⟩ := kn_of_le (c := 200) (by decide) (by decide) h1
      obtain ⟨b, hb, rfl⟩ := kn_of_le (c := 2) (by decide) (by decide) h2
      rw [kh_nat_nI (show j < 2 ^ 31 by omega)] at e0
      rw [e0] at k
      refine ks_M_on_27 <| ks_M_on_28 <| ks_M_on_29 <| ks_M_on_30 <| ks_M_on_33 (Nat.le_of_ble_eq_true rfl) ?_
      refine kt_M_try ha.h hc8 (fun μ1 a1 t1 f1 => ?_)
      refine ks_M_on_36 <| ks_M_on_37 <| ks_M_on_38 (Nat.le_of_ble_eq_true rfl) ?_
      refine kt_M_passes a1 hv (by omega) (fun μ2 a2 f2 => ?_)
      have t2 := f2.t t1
      refine ks_M_on_41 <| ks_M_on_42 <| ks_M_on_45 <| ks_M_on_46 <| ks_M_on_47 <| ks_M_on_48 (1 + b) (nI_add 1 b) (by omega) <| ks_M_on_49 rfl <| ks_M_on_50 <| ks_M_on_51 <| ks_M_on_52 <| ks_M_on_53 <| ks_M_on_56 (Nat.le_of_ble_eq_true rfl) ?_
      refine kt_M_bk t2 hc8 (fun μ3 a3 t3 f3 => ?_)
      have f4 := (f1.tr f2.h).tr f3
      refine ks_M_on_59 <| ks_M_on_60 ?_
      have g := k μ3 (ha.hall a3 f4) f4.P
      rcases (show b = 0 ∨ b = 1 ∨ b = 2 by omega) with rfl | rfl | rfl
      · rw [show kq_rI μ2 0 21 (1 + 0) = _ from a2.H]
        dsimp only at g
        rw [if_pos (by decide)] at g
        exact g
      · rw [show kq_rI μ2 0 21 (1 + 1) = _ from a2.W]
        dsimp only at g
        rw [if_neg (by decide), if_pos (by decide)] at g
        exact g
      · rw [show kq_rI μ2 0 21 (1 + 2) = _ from a2.E]
        dsimp only at g
        rw [if_neg (by decide), if_neg (by decide)] at g
        exact g
    · exact no (fun q => of_decide_eq_false (kq_b_f h17) q.2) none
theorem ko_M_then (hz : kz_ok z) : kM_ct km_M_then [kq_I w, kq_I n, kq_I a] z (sp_then z w n a).2 (kq_I (sp_then z w n a).1) := by
  intro μ Q ha k
  have hv := hz.1.1
  have hc8 := hv.1
  have hm := hz.1.2
  have no : ¬ (kh_wi (kz_h z) w = true ∧ (0 ≤ n ∧ n ≤ 200) ∧ (0 ≤ a ∧ a ≤ 1)) → ∀ o, kq_S km_M_then 11 28 [some (kq_R 0 20), some (kq_I w), some (kq_I n), some (kq_I a), o] [] μ Q := by
    intro h o
    rw [show sp_then z w n a = kz_F z 0 from if_pos h] at k
    refine ks_M_then_28 <| ks_M_then_29 <| ks_M_then_31 (Nat.le_of_ble_eq_true rfl) ?_
    refine kt_M_fin 0 ha (by decide) (by decide) (fun μ' a1 f1 => ?_)
    refine ks_M_then_34 ?_
    exact k μ' a1 f1
  refine ke_M_then ?_
  refine ks_M_then_0 <| ks_M_then_1 <| ks_M_then_2 (Nat.le_of_ble_eq_true rfl) ?_
  refine kt_M_isOne ha.h hv ?_
  refine ks_M_then_5 (fun h5 => ?_) (fun h5 => ?_)
  · exact no (fun q => by rw [kq_b_f h5] at q; exact absurd q.1 (by decide)) none
  · have hw := kq_b_t h5
    refine ks_M_then_8 <| ks_M_then_9 <| ks_M_then_10 <| ks_M_then_13 (Nat.le_of_ble_eq_true rfl) ?_
    refine kt_M_in ?_
    refine ks_M_then_16 (fun h16 => ?_) (fun h16 => ?_)
    · exact no (fun q => of_decide_eq_false (kq_b_f h16) q.2.1) none
    · have h1 := of_decide_eq_true (kq_b_t h16)
      refine ks_M_then_19 <| ks_M_then_20 <| ks_M_then_21 <| ks_M_then_22 (Nat.le_of_ble_eq_true rfl) ?_
      refine kt_M_in ?_
      refine ks_M_then_25 (fun h25 => ?_) (fun h25 => ?_)
      · have h2 := of_decide_eq_true (kq_b_t h25)
        have e0 : sp_then z w n a = _ := if_neg (fun q => q ⟨hw, h1, h2⟩)
        obtain ⟨y, hy, rfl⟩ := kh_wi_ix hv hw
        obtain ⟨j, hj, rfl⟩ := kn_of_le (c := 200) (by decide) (by decide) h1
        rw [kh_nat_nI (show j < 2 ^ 31 by omega), kh_nat_nI (show y < 2 ^ 31 by omega)] at e0
        rw [e0] at k
        refine ks_M_then_35 <| ks_M_then_36 <| ks_M_then_37 <| ks_M_then_38 <| ks_M_then_41 (Nat.le_of_ble_eq_true rfl) ?_
        refine kt_M_try ha.h hc8 (fun μ1 a1 t1 f1 => ?_)
        refine ks_M_then_44 <| ks_M_then_45 <| ks_M_then_46 (Nat.le_of_ble_eq_true rfl) ?_
        refine kt_M_passes a1 hv (by omega) (fun μ2 a2 f2 => ?_)
        have t2 := f2.t t1
        have o2 := kh_pass_ok j (kz_h z) hv (by omega)
        have c2 : y < kh_c (kh_pass j (kz_h z)) := by rw [kh_pass_c]; exact hy
        refine ks_M_then_49 <| ks_M_then_50 <| ks_M_then_51 <| ks_M_then_52 (fun h52 => ?_) (fun h52 => ?_)
        · refine ks_M_then_59 ?_
          refine ks_M_then_60 (Nat.le_of_ble_eq_true rfl) ?_
          refine kt_M_its1 a2 o2 c2 ?_
          refine ks_M_then_63 rfl <| ks_M_then_65 <| ks_M_then_66 <| ks_M_then_67 <| ks_M_then_68 <| ks_M_then_71 (Nat.le_of_ble_eq_true rfl) ?_
          refine kt_M_bk t2 hc8 (fun μ3 a3 t3 f3 => ?_)
          have f4 := (f1.tr f2.h).tr f3
          refine ks_M_then_74 <| ks_M_then_76 ?_
          have g := k μ3 (ha.hall a3 f4) f4.P
          dsimp only at g
          rw [if_neg h52] at g
          exact g
        · refine ks_M_then_55 <| ks_M_then_56 ?_
          refine ks_M_then_60 (Nat.le_of_ble_eq_true rfl) ?_
          refine kt_M_its3 a2 o2 c2 ?_
          refine ks_M_then_63 rfl <| ks_M_then_65 <| ks_M_then_66 <| ks_M_then_67 <| ks_M_then_68 <| ks_M_then_71 (Nat.le_of_ble_eq_true rfl) ?_
          refine kt_M_bk t2 hc8 (fun μ3 a3 t3 f3 => ?_)
          have f4 := (f1.tr f2.h).tr f3
          refine ks_M_then_74 <| ks_M_then_76 ?_
          have g := k μ3 (ha.hall a3 f4) f4.P
          dsimp only at g
          rw [if_pos h52] at g
          exact g
      · exact no (fun q => of_decide_eq_false (kq_b_f h25) q.2.2) none
end KM6
