/-! THE REFERENCE: its calls (1) -/
def kM_h (μ μ' : kq_M) : Prop := kq_fr (fun a b => a = 0 ∧ (b = 20 ∨ b = 21 ∨ b = 23 ∨ b = 24 ∨ b = 29 ∨ b = 31)) μ μ' ∧ kq_rI μ' 0 20 6 = kq_rI μ 0 20 6 ∧ kq_rI μ' 0 20 19 = kq_rI μ 0 20 19
theorem kM_h.rf {μ : kq_M} : kM_h μ μ := ⟨kq_fr.rf, rfl, rfl⟩
theorem kM_h.tr {μ μ' μ'' : kq_M} (h : kM_h μ μ') (h' : kM_h μ' μ'') : kM_h μ μ'' := ⟨h.1.tr h'.1, h'.2.1.trans h.2.1, h'.2.2.trans h.2.2⟩
theorem kM_m.h {μ μ' : kq_M} (h : kM_m μ μ') : kM_h μ μ' := ⟨h.1.mono (fun a b q => ⟨q.1, q.2.elim Or.inl (fun e => Or.inr (Or.inl e))⟩), h.2 6 (by decide), h.2 19 (by decide)⟩
theorem kM_h.row {μ μ' : kq_M} {k : Nat} {x : Int32} (h : kM_h μ μ') : kM_h μ (kq_wI μ' 0 21 k x) := ⟨h.1.wI ⟨rfl, Or.inr (Or.inl rfl)⟩, (kc_wr (fun q => absurd q.1 (by decide))).trans h.2.1, (kc_wr (fun q => absurd q.1 (by decide))).trans h.2.2⟩
theorem kM_h.P {μ μ' : kq_M} (h : kM_h μ μ') : kq_fr kM_P μ μ' := h.1.mono (fun a b q => by show 20 ≤ b; rcases q.2 with e | e | e | e | e | e <;> omega)
theorem kM_h.st {μ μ' : kq_M} {i : Nat} (hi : i = 21 ∨ i = 23 ∨ i = 24 ∨ i = 29 ∨ i = 31) (h : kq_fr (fun a b => a = 0 ∧ b = i) μ μ') : kM_h μ μ' := ⟨h.mono (fun a b q => ⟨q.1, by rcases q with ⟨_, e⟩; omega⟩), h.1 _ _ _ (fun q => by have := q.2; omega), h.1 _ _ _ (fun q => by have := q.2; omega)⟩
theorem kM_at.hall {μ μ' : kq_M} {z : kz_S} {v : kh_S} (h : kM_at μ z) (h1 : kr_at μ' 21 v) (hf : kM_h μ μ') : kM_at μ' (kz_seth z v) := by
  have n : ∀ b, b ≠ 20 → b ≠ 21 → b ≠ 23 → b ≠ 24 → b ≠ 29 → b ≠ 31 → ¬ ((0 : Nat) = 0 ∧ (b = 20 ∨ b = 21 ∨ b = 23 ∨ b = 24 ∨ b = 29 ∨ b = 31)) := fun b h1 h2 h3 h4 h5 h6 q => by omega
  refine ⟨h1, hf.2.2.trans h.b, fun hb => (h.k hb).fr hf.1 (n 30 (by decide) (by decide) (by decide) (by decide) (by decide) (by decide)), hf.2.1.trans h.n, fun j hj => ?_, fun s hs => ?_, fun s hs => ?_, fun s hs j hj => ?_, fun k hk => ?_⟩
  · rw [hf.1.1 _ _ _ (n 25 (by decide) (by decide) (by decide) (by decide) (by decide) (by decide))]; exact h.t j hj
  · rw [hf.1.1 _ _ _ (n 26 (by decide) (by decide) (by decide) (by decide) (by decide) (by decide))]; exact h.B s hs
  · rw [hf.1.1 _ _ _ (n 27 (by decide) (by decide) (by decide) (by decide) (by decide) (by decide))]; exact h.L s hs
  · rw [hf.1.2.1 _ _ _ (n 28 (by decide) (by decide) (by decide) (by decide) (by decide) (by decide))]; exact h.N s hs j hj
  · rw [hf.1.1 _ _ _ (n 22 (by decide) (by decide) (by decide) (by decide) (by decide) (by decide))]; exact h.f k hk
theorem kM_at.fin {μ : kq_M} {z : kz_S} {k : Nat} {x : Int32} (h : kM_at μ z) (hx : x = kz_f z k + 1) : kM_at (kq_wI μ 0 22 k x) (kz_fin z k) := by
  have o : ∀ a b c, b ≠ 22 → kq_rI (kq_wI μ 0 22 k x) a b c = kq_rI μ a b c := fun a b c hb => kc_wr (fun q => hb q.1)
  have hf : kq_fr (fun a b => a = 0 ∧ b = 22) μ (kq_wI μ 0 22 k x) := kq_fr.rf.wI ⟨rfl, rfl⟩
  refine ⟨h.h.fr hf (fun q => by cases q.2), ?_, fun hb => (h.k hb).fr hf (fun q => by cases q.2), ?_, fun j hj => ?_, fun s hs => ?_, fun s hs => ?_, h.N, fun j hj => ?_⟩
  · rw [o _ _ _ (by decide)]; exact h.b
  · rw [o _ _ _ (by decide)]; exact h.n
  · rw [o _ _ _ (by decide)]; exact h.t j hj
  · rw [o _ _ _ (by decide)]; exact h.B s hs
  · rw [o _ _ _ (by decide)]; exact h.L s hs
  · subst hx
    exact kc_row (h.f j hj)
theorem km_code : ∀ j, j < 7 → -1000000001 - kz_code j = nI j := by decide
theorem km_ix0 {w : Nat} : 7 + 4 * nI w = nI (7 + 4 * w) := by
  rw [show (4 : Int32) = nI 4 from rfl, show nI 4 * nI w = nI (4 * w) from (Int32.ofNat_mul 4 _).symm, show (7 : Int32) = nI 7 from rfl, nI_add]
section KM4
variable {z : kz_S} {w a x n s f : Int32}
theorem kt_M_fin {d : Nat} {μ : kq_M} {Q : Option kq_V → kq_M → Prop} (j : Nat) (ha : kM_at μ z) (hj : j < 7) (hx : x = kz_code j) (k : ∀ μ', kM_at μ' (kz_fin z j) → kq_fr kM_P μ μ' → Q (some (kq_I (kz_code j))) μ') : kq_Call d km_M_finds [kq_R 0 20, kq_I x] μ Q := by
  subst hx
  refine ke_M_finds ?_
  refine ks_M_finds_0 <| ks_M_finds_1 <| ks_M_finds_4 <| ks_M_finds_6 <| ks_M_finds_7 <| ks_M_finds_8 rfl rfl <| ks_M_finds_9 j (km_code j hj) hj <| ks_M_finds_10 <| ks_M_finds_11 <| ks_M_finds_12 j (km_code j hj) hj <| ks_M_finds_13 <| ks_M_finds_14 ?_
  rw [ha.f j hj]
  exact k _ (ha.fin rfl) (kq_fr.rf.wI (show 20 ≤ 22 by decide))
theorem ko_M_truth : kM_ct km_M_truth [kq_I x] z (sp_truth z x).2 (kq_I (sp_truth z x).1) := by
  intro μ Q ha k
  refine ke_M_truth ?_
  refine ks_M_truth_0 <| ks_M_truth_1 <| ks_M_truth_2 <| ks_M_truth_5 (Nat.le_of_ble_eq_true rfl) ?_
  refine kt_M_in ?_
  refine ks_M_truth_8 (fun h8 => ?_) (fun h8 => ?_)
  · rw [show sp_truth z x = _ from if_neg (of_decide_eq_false (kq_b_f h8))] at k
    refine ks_M_truth_20 <| ks_M_truth_21 <| ks_M_truth_23 (Nat.le_of_ble_eq_true rfl) ?_
    refine kt_M_fin 0 ha (by decide) (by decide) (fun μ' a1 f1 => ?_)
    refine ks_M_truth_26 ?_
    exact k μ' a1 f1
  · rw [show sp_truth z x = _ from if_pos (of_decide_eq_true (kq_b_t h8))] at k
    refine ks_M_truth_11 <| ks_M_truth_12 <| ks_M_truth_13 <| ks_M_truth_14 (Nat.le_of_ble_eq_true rfl) ?_
    refine kt_M_becomes (a := 5) (by decide) ?_
    refine ks_M_truth_17 <| ks_M_truth_26 ?_
    rw [ha.h.T]
    exact k _ (ha.hall ha.h.wT kM_h.rf.row) kM_h.rf.row.P
theorem ko_M_kettle : kM_ct km_M_kettle [kq_I a, kq_I x] z (sp_kettle z a x).2 (kq_I (sp_kettle z a x).1) := by
  intro μ Q ha k
  refine ke_M_kettle ?_
  refine ks_M_kettle_0 <| ks_M_kettle_1 (fun h1 => ?_) (fun h1 => ?_) (fun h1_0 h1_1 => ?_)
  · subst h1
    refine ks_M_kettle_28 <| ks_M_kettle_29 <| ks_M_kettle_30 <| ks_M_kettle_32 (Nat.le_of_ble_eq_true rfl) ?_
    refine kt_M_in ?_
    refine ks_M_kettle_35 (fun h35 => ?_) (fun h35 => ?_)
    · have h := of_decide_eq_false (kq_b_f h35)
      rw [show sp_kettle z 0 x = kz_F z 0 from (if_neg (fun q => h q.2)).trans ((if_neg (fun q => absurd q.1 (by decide))).trans (if_neg (fun q => absurd q.1 (by decide))))] at k
      refine ks_M_kettle_47 <| ks_M_kettle_48 <| ks_M_kettle_50 (Nat.le_of_ble_eq_true rfl) ?_
      refine kt_M_fin 0 ha (by decide) (by decide) (fun μ' a1 f1 => ?_)
      refine ks_M_kettle_53 ?_
      exact k μ' a1 f1
    · rw [show sp_kettle z 0 x = _ from if_pos ⟨rfl, of_decide_eq_true (kq_b_t h35)⟩] at k
      refine ks_M_kettle_38 <| ks_M_kettle_39 <| ks_M_kettle_40 <| ks_M_kettle_41 (Nat.le_of_ble_eq_true rfl) ?_
      refine kt_M_becomes (a := 1) (by decide) ?_
      refine ks_M_kettle_44 <| ks_M_kettle_53 ?_
      rw [ha.h.H]
      exact k _ (ha.hall ha.h.wH kM_h.rf.row) kM_h.rf.row.P
  · subst h1
    refine ks_M_kettle_54 <| ks_M_kettle_55 <| ks_M_kettle_56 <| ks_M_kettle_58 (Nat.le_of_ble_eq_true rfl) ?_
    refine kt_M_in ?_
    refine ks_M_kettle_61 (fun h61 => ?_) (fun h61 => ?_)
    · have h := of_decide_eq_false (kq_b_f h61)
      rw [show sp_kettle z 1 x = kz_F z 0 from (if_neg (fun q => absurd q.1 (by decide))).trans ((if_neg (fun q => h q.2)).trans (if_neg (fun q => absurd q.1 (by decide))))] at k
      refine ks_M_kettle_73 <| ks_M_kettle_74 <| ks_M_kettle_76 (Nat.le_of_ble_eq_true rfl) ?_
      refine kt_M_fin 0 ha (by decide) (by decide) (fun μ' a1 f1 => ?_)
      refine ks_M_kettle_79 ?_
      exact k μ' a1 f1
    · rw [show sp_kettle z 1 x = _ from (if_neg (fun q => absurd q.1 (by decide))).trans (if_pos ⟨rfl, of_decide_eq_true (kq_b_t h61)⟩)] at k
      refine ks_M_kettle_64 <| ks_M_kettle_65 <| ks_M_kettle_66 <| ks_M_kettle_67 (Nat.le_of_ble_eq_true rfl) ?_
      refine kt_M_becomes (a := 2) (by decide) ?_
      refine ks_M_kettle_70 <| ks_M_kettle_79 ?_
      rw [ha.h.W]
      exact k _ (ha.hall ha.h.wW kM_h.rf.row) kM_h.rf.row.P
  · have e0 : sp_kettle z a x = _ := (if_neg (fun q => h1_0 q.1)).trans (if_neg (fun q => h1_1 q.1))
    have no : ¬ (a = 2 ∧ 1 ≤ x ∧ x ≤ 99) → kq_S km_M_kettle 11 104 [some (kq_R 0 20), some (kq_I a), some (kq_I x)] [] μ Q := by
      intro h
      rw [if_neg h] at e0
      rw [e0] at k
      refine ks_M_kettle_104 <| ks_M_kettle_105 <| ks_M_kettle_107 (Nat.le_of_ble_eq_true rfl) ?_
      refine kt_M_fin 0 ha (by decide) (by decide) (fun μ' a1 f1 => ?_)
      refine ks_M_kettle_110 ?_
      exact k μ' a1 f1
    refine ks_M_kettle_80 <| ks_M_kettle_81 <| ks_M_kettle_82 (fun h82 => ?_) (fun h82 => ?_)
    · exact no (fun q => h82 q.1)
    · refine ks_M_kettle_85 <| ks_M_kettle_86 <| ks_M_kettle_87 <| ks_M_kettle_89 (Nat.le_of_ble_eq_true rfl) ?_
      refine kt_M_in ?_
      refine ks_M_kettle_92 (fun h92 => ?_) (fun h92 => ?_)
      · exact no (fun q => of_decide_eq_false (kq_b_f h92) q.2)
      · rw [if_pos ⟨h82, of_decide_eq_true (kq_b_t h92)⟩] at e0
        rw [e0] at k
        refine ks_M_kettle_95 <| ks_M_kettle_96 <| ks_M_kettle_97 <| ks_M_kettle_98 (Nat.le_of_ble_eq_true rfl) ?_
        refine kt_M_becomes (a := 4) (by decide) ?_
        refine ks_M_kettle_101 <| ks_M_kettle_110 ?_
        rw [ha.h.B]
        exact k _ (ha.hall ha.h.wB kM_h.rf.row) kM_h.rf.row.P
theorem ko_M_witness (hz : kz_ok z) : kM_ct km_M_witness [kq_I x] z (sp_witness z x).2 (kq_I (sp_witness z x).1) := by
  intro μ Q ha k
  have hc8 := hz.1.1.1
  refine ke_M_witness ?_
  refine ks_M_witness_0 <| ks_M_witness_1 (Nat.le_of_ble_eq_true rfl) ?_
  refine kt_M_isKind ?_
  refine ks_M_witness_4 (fun h4 => ?_) (fun h4 => ?_)
  · have e0 : sp_witness z x = _ := if_neg (fun q => q (of_decide_eq_true (kq_b_t h4)))
    refine ks_M_witness_14 <| ks_M_witness_15 <| ks_M_witness_18 <| ks_M_witness_20 <| ks_M_witness_21 <| ks_M_witness_23 (fun h23 => ?_) (fun h23 => ?_)
    · rw [ha.h.c, ki_eq, ki_8, nI_toInt (by omega)] at h23
      rw [if_neg (by omega)] at e0
      rw [e0] at k
      refine ks_M_witness_33 <| ks_M_witness_34 <| ks_M_witness_35 <| ks_M_witness_36 <| ks_M_witness_37 <| ks_M_witness_38 (Nat.le_of_ble_eq_true rfl) ?_
      refine kt_M_adds ha.h (by omega) (fun μ1 a1 f1 => ?_)
      refine ks_M_witness_41 <| ks_M_witness_42 <| ks_M_witness_45 <| ks_M_witness_47 <| ks_M_witness_48 <| ks_M_witness_49 <| ks_M_witness_50 ?_
      rw [a1.c, show kh_c (kh_add (kz_h z) x 0 0 3) = kh_c (kz_h z) + 1 from rfl, nI_pred]
      exact k _ (ha.hall a1 f1.h) f1.h.P
    · rw [ha.h.c, ki_eq, ki_8, nI_toInt (by omega)] at h23
      rw [if_pos (by omega)] at e0
      rw [e0] at k
      refine ks_M_witness_26 <| ks_M_witness_27 <| ks_M_witness_29 (Nat.le_of_ble_eq_true rfl) ?_
      refine kt_M_fin 1 ha (by decide) (by decide) (fun μ' a1 f1 => ?_)
      refine ks_M_witness_32 ?_
      exact k μ' a1 f1
  · rw [show sp_witness z x = _ from if_pos (of_decide_eq_false (kq_b_f h4))] at k
    refine ks_M_witness_7 <| ks_M_witness_8 <| ks_M_witness_10 (Nat.le_of_ble_eq_true rfl) ?_
    refine kt_M_fin 0 ha (by decide) (by decide) (fun μ' a1 f1 => ?_)
    refine ks_M_witness_13 ?_
    exact k μ' a1 f1
theorem ko_M_turn (hz : kz_ok z) : kM_ct km_M_turn [kq_I w, kq_I x] z (sp_turn z w x).2 (kq_I (sp_turn z w x).1) := by
  intro μ Q ha k
  have hv := hz.1.1
  have hc8 := hv.1
  have no : (kh_wi (kz_h z) w = false ∨ ¬ (0 ≤ x ∧ x < 6)) → kq_S km_M_turn 11 29 [some (kq_R 0 20), some (kq_I w), some (kq_I x)] [] μ Q := by
    intro h
    rw [show sp_turn z w x = kz_F z 0 from if_pos h] at k
    refine ks_M_turn_29 <| ks_M_turn_30 <| ks_M_turn_32 (Nat.le_of_ble_eq_true rfl) ?_
    refine kt_M_fin 0 ha (by decide) (by decide) (fun μ' a1 f1 => ?_)
    refine ks_M_turn_35 ?_
    exact k μ' a1 f1
  refine ke_M_turn ?_
  refine ks_M_turn_0 <| ks_M_turn_1 <| ks_M_turn_2 (Nat.le_of_ble_eq_true rfl) ?_
  refine kt_M_isOne ha.h hv ?_
  refine ks_M_turn_5 (fun h5 => ?_) (fun h5 => ?_)
  · exact no (Or.inl (kq_b_f h5))
  · refine ks_M_turn_8 <| ks_M_turn_9 (Nat.le_of_ble_eq_true rfl) ?_
    refine kt_M_isKind ?_
    refine ks_M_turn_12 (fun h12 => ?_) (fun h12 => ?_)
    · exact no (Or.inr (of_decide_eq_false (kq_b_f h12)))
    · have hw := kq_b_t h5
      have e0 : sp_turn z w x = _ := if_neg (fun q => q.elim (fun y => by rw [hw] at y; exact absurd y (by decide)) (fun y => y (of_decide_eq_true (kq_b_t h12))))
      obtain ⟨j, hj, rfl⟩ := kh_wi_ix hv hw
      rw [kh_nat_nI (by omega)] at e0
      rw [e0] at k
      refine ks_M_turn_15 <| ks_M_turn_16 <| ks_M_turn_18 <| ks_M_turn_19 <| ks_M_turn_20 <| ks_M_turn_21 <| ks_M_turn_22 <| ks_M_turn_23 (Nat.le_of_ble_eq_true rfl) ?_
      rw [km_ix0]
      refine kt_M_becomes (by omega) ?_
      refine ks_M_turn_26 <| ks_M_turn_35 ?_
      rw [ha.h.k hj]
      exact k _ (ha.hall ha.h.wk kM_h.rf.row) kM_h.rf.row.P
theorem ko_M_heats (hz : kz_ok z) : kM_ct km_M_heats [kq_I w, kq_I f] z (sp_heats z w f).2 (kq_I (sp_heats z w f).1) := by
  intro μ Q ha k
  have hv := hz.1.1
  have hc8 := hv.1
  have no : (kh_wi (kz_h z) w = false ∨ ¬ (0 ≤ f ∧ f < 8)) → kq_S km_M_heats 11 27 [some (kq_R 0 20), some (kq_I w), some (kq_I f)] [] μ Q := by
    intro h
    rw [show sp_heats z w f = kz_F z 0 from if_pos h] at k
    refine ks_M_heats_27 <| ks_M_heats_28 <| ks_M_heats_30 (Nat.le_of_ble_eq_true rfl) ?_
    refine kt_M_fin 0 ha (by decide) (by decide) (fun μ' a1 f1 => ?_)
    refine ks_M_heats_33 ?_
    exact k μ' a1 f1
  refine ke_M_heats ?_
  refine ks_M_heats_0 <| ks_M_heats_1 <| ks_M_heats_2 (Nat.le_of_ble_eq_true rfl) ?_
  refine kt_M_isOne ha.h hv ?_
  refine ks_M_heats_5 (fun h5 => ?_) (fun h5 => ?_)
  · exact no (Or.inl (kq_b_f h5))
  · refine ks_M_heats_8 <| ks_M_heats_9 (Nat.le_of_ble_eq_true rfl) ?_
    refine kt_M_isFact ?_
    refine ks_M_heats_12 (fun h12 => ?_) (fun h12 => ?_)
    · exact no (Or.inr (of_decide_eq_false (kq_b_f h12)))
    · have hw := kq_b_t h5
      have hf := of_decide_eq_true (kq_b_t h12)
      have e0 : sp_heats z w f = _ := if_neg (fun q => q.elim (fun y => by rw [hw] at y; exact absurd y (by decide)) (fun y => y hf))
      obtain ⟨j, hj, rfl⟩ := kh_wi_ix hv hw
      obtain ⟨g, hg, rfl⟩ := kf8 hf
      rw [kh_nat_nI (show j < 2 ^ 31 by omega), kh_nat_nI (show g < 2 ^ 31 by omega)] at e0
      rw [e0] at k
      refine ks_M_heats_15 <| ks_M_heats_17 <| ks_M_heats_18 <| ks_M_heats_19 <| ks_M_heats_20 (Nat.le_of_ble_eq_true rfl) ?_
      refine kt_M_heating ha.h hv hj hg ?_
      refine ks_M_heats_23 <| ks_M_heats_24 <| ks_M_heats_33 ?_
      exact k _ ha kq_fr.rf
theorem ko_M_ask (hz : kz_ok z) : kM_ct km_M_ask [kq_I w, kq_I f] z (sp_ask z w f).2 (kq_I (sp_ask z w f).1) := by
  intro μ Q ha k
  have hv := hz.1.1
  have hc8 := hv.1
  have no : (kh_wi (kz_h z) w = false ∨ ¬ (0 ≤ f ∧ f < 8)) → kq_S km_M_ask 11 15 [some (kq_R 0 20), some (kq_I w), some (kq_I f)] [] μ Q := by
    intro h
    rw [show sp_ask z w f = kz_F z 0 from if_pos h] at k
    refine ks_M_ask_15 <| ks_M_ask_16 <| ks_M_ask_18 (Nat.le_of_ble_eq_true rfl) ?_
    refine kt_M_fin 0 ha (by decide) (by decide) (fun μ' a1 f1 => ?_)
    refine ks_M_ask_21 ?_
    exact k μ' a1 f1
  refine ke_M_ask ?_
  refine ks_M_ask_0 <| ks_M_ask_1 <| ks_M_ask_2 (Nat.le_of_ble_eq_true rfl) ?_
  refine kt_M_isOne ha.h hv ?_
  refine ks_M_ask_5 (fun h5 => ?_) (fun h5 => ?_)
  · exact no (Or.inl (kq_b_f h5))
  · refine ks_M_ask_8 <| ks_M_ask_9 (Nat.le_of_ble_eq_true rfl) ?_
    refine kt_M_isFact ?_
    refine ks_M_ask_12 (fun h12 => ?_) (fun h12 => ?_)
    · have hw := kq_b_t h5
      have hf := of_decide_eq_true (kq_b_t h12)
      have e0 : sp_ask z w f = _ := if_neg (fun q => q.elim (fun y => by rw [hw] at y; exact absurd y (by decide)) (fun y => y hf))
      obtain ⟨j, hj, rfl⟩ := kh_wi_ix hv hw
      obtain ⟨g, hg, rfl⟩ := kf8 hf
      rw [kh_nat_nI (show j < 2 ^ 31 by omega), kh_nat_nI (show g < 2 ^ 31 by omega)] at e0
      rw [e0] at k
      refine ks_M_ask_22 <| ks_M_ask_23 <| ks_M_ask_24 <| ks_M_ask_25 (Nat.le_of_ble_eq_true rfl) ?_
      refine kt_M_answers ha.h hv hj hg (fun μ1 a1 f1 b1 => ?_)
      have g := k μ1 (ha.hall a1 f1.h) f1.h.P
      refine ks_M_ask_28 <| ks_M_ask_29 <| ks_M_ask_32 (fun h32 => ?_) (fun h32 => ?_)
      · rw [b1] at h32
        dsimp only at g
        rw [kq_b_f h32] at g
        refine ks_M_ask_39 <| ks_M_ask_40 ?_
        exact g
      · rw [b1] at h32
        dsimp only at g
        rw [kq_b_t h32] at g
        refine ks_M_ask_35 <| ks_M_ask_36 <| ks_M_ask_40 ?_
        exact g
    · exact no (Or.inr (of_decide_eq_false (kq_b_f h12)))
theorem ko_M_minutes (hz : kz_ok z) : kM_ct km_M_minutes [kq_I n] z (sp_minutes z n).2 (kq_I (sp_minutes z n).1) := by
  intro μ Q ha k
  have hv := hz.1.1
  have hm := hz.1.2
  refine ke_M_minutes ?_
  refine ks_M_minutes_0 <| ks_M_minutes_1 <| ks_M_minutes_2 <| ks_M_minutes_4 (Nat.le_of_ble_eq_true rfl) ?_
  refine kt_M_in ?_
  refine ks_M_minutes_7 (fun h7 => ?_) (fun h7 => ?_)
  · have h := of_decide_eq_true (kq_b_t h7)
    have e0 : sp_minutes z n = _ := if_neg (fun q => q h)
    obtain ⟨j, hj, rfl⟩ := kn_of_le (c := 100) (by decide) (by decide) h
    rw [kh_nat_nI (by omega)] at e0
    refine ks_M_minutes_17 <| ks_M_minutes_18 <| ks_M_minutes_21 <| ks_M_minutes_22 <| ks_M_minutes_23 <| ks_M_minutes_24 <| ks_M_minutes_25 <| ks_M_minutes_27 (fun h27 => ?_) (fun h27 => ?_)
    · rw [ha.h.m, nI_add, ki_le, nI_toInt (by omega), show (99999 : Int32).toInt = 99999 from by decide] at h27
      rw [if_neg (by omega)] at e0
      rw [e0] at k
      refine ks_M_minutes_37 <| ks_M_minutes_38 <| ks_M_minutes_39 (Nat.le_of_ble_eq_true rfl) ?_
      refine kt_M_passes ha.h hv (by omega) (fun μ1 a1 f1 => ?_)
      refine ks_M_minutes_42 <| ks_M_minutes_43 <| ks_M_minutes_46 <| ks_M_minutes_47 <| ks_M_minutes_48 ?_
      rw [a1.E]
      exact k _ (ha.hall a1 f1.h) f1.h.P
    · rw [ha.h.m, nI_add, ki_le, nI_toInt (by omega), show (99999 : Int32).toInt = 99999 from by decide] at h27
      rw [if_pos (by omega)] at e0
      rw [e0] at k
      refine ks_M_minutes_30 <| ks_M_minutes_31 <| ks_M_minutes_33 (Nat.le_of_ble_eq_true rfl) ?_
      refine kt_M_fin 4 ha (by decide) (by decide) (fun μ' a1 f1 => ?_)
      refine ks_M_minutes_36 ?_
      exact k μ' a1 f1
  · rw [show sp_minutes z n = _ from if_pos (of_decide_eq_false (kq_b_f h7))] at k
    refine ks_M_minutes_10 <| ks_M_minutes_11 <| ks_M_minutes_13 (Nat.le_of_ble_eq_true rfl) ?_
    refine kt_M_fin 0 ha (by decide) (by decide) (fun μ' a1 f1 => ?_)
    refine ks_M_minutes_16 ?_
    exact k μ' a1 f1
end KM4
