/-! THE REFERENCE: its calls (13): read -/
section KM16
variable {z : kz_S} {w a x n s f b i : Int32}
theorem kt_M_isSo {d j L : Nat} {v : kh_S} {μ : kq_M} {Q : Option kq_V → kq_M → Prop} (ha : kr_at μ 21 v) (hv : kh_ok v) (hj : j < 4) (hL : L ≤ 40) (hl : kq_rI μ 0 27 j = nI L) (hm : kh_m v + L < 1000000) (k : ∀ μ', kM_m μ μ' → Q (some (kq_I (kq_b (kh_goes (fun y => kq_rL μ 0 28 (40 * j + y)) L 0 v)))) μ') : kq_Call (d + 7) km_M_isSo [kq_R 0 20, kq_I (nI j)] μ Q := by
  generalize hG : (fun y => kq_rL μ 0 28 (40 * j + y)) = G at k
  have nP : ∀ c, c ≠ 20 → c ≠ 21 → ¬ ((0 : Nat) = 0 ∧ (c = 20 ∨ c = 21)) := fun c h1 h2 q => by omega
  have out : ∀ (b : Bool) (y : Int32) (μ1 : kq_M), kM_m μ μ1 → kh_goes G L 0 v = b → kq_S km_M_isSo (d + 7) 56 [some (kq_R 0 20), some (kq_I (nI j)), some (kq_I (kq_b b)), some (kq_I y)] [] μ1 Q := by
    intro b y μ1 f1 e
    refine ks_M_isSo_56 <| ks_M_isSo_57 (by first | exact kq_b01' _ | exact Or.inl rfl | exact Or.inr rfl | assumption) ?_
    rw [e] at k
    exact k μ1 f1
  have loop : ∀ (q i : Nat) (v1 : kh_S) (μ1 : kq_M), i + q = L → kr_at μ1 21 v1 → kh_ok v1 → kh_m v1 + q < 1000000 → kM_m μ μ1 → kh_goes G L 0 v = kh_goes G q i v1 → kq_S km_M_isSo (d + 7) 4 [some (kq_R 0 20), some (kq_I (nI j)), some (kq_I (kq_b true)), some (kq_I (nI i))] [] μ1 Q := by
    intro q
    induction q with
    | zero =>
      intro i v1 μ1 hi a1 o1 m1 f1 e
      have hl1 : kq_rI μ1 0 27 j = nI L := (f1.1.1 _ _ _ (nP 27 (by decide) (by decide))).trans hl
      refine ks_M_isSo_4 <| ks_M_isSo_5 <| ks_M_isSo_6 <| ks_M_isSo_9 <| ks_M_isSo_10n (by omega) <| ks_M_isSo_11 (fun h11 => ?_) (fun h11 => ?_)
      · exact out true _ μ1 f1 e
      · rw [hl1] at h11
        exact absurd (nI_le (show L ≤ i by omega) (by omega)) h11
    | succ q ih =>
      intro i v1 μ1 hi a1 o1 m1 f1 e
      have hl1 : kq_rI μ1 0 27 j = nI L := (f1.1.1 _ _ _ (nP 27 (by decide) (by decide))).trans hl
      have hn1 : kq_rL μ1 0 28 (40 * j + i) = G i := by rw [← hG]; exact f1.1.2.1 _ _ _ (nP 28 (by decide) (by decide))
      have e1 : kh_goes G (q + 1) i v1 = (decide ((kh_H v1).toInt64 = G i) && kh_goes G q (i + 1) (kh_min v1)) := rfl
      refine ks_M_isSo_4 <| ks_M_isSo_5 <| ks_M_isSo_6 <| ks_M_isSo_9 <| ks_M_isSo_10n (by omega) <| ks_M_isSo_11 (fun h11 => ?_) (fun h11 => ?_)
      · rw [hl1] at h11
        exact absurd h11 (nI_ge (show i < L by omega) (by omega))
      · refine ks_M_isSo_14 <| ks_M_isSo_15 (fun h15 => ?_) (fun h15 => ?_)
        · exact absurd h15 (by decide)
        · refine ks_M_isSo_18 <| ks_M_isSo_19 <| ks_M_isSo_22 <| ks_M_isSo_24 <| ks_M_isSo_25 <| ks_M_isSo_26 <| ks_M_isSo_27 <| ks_M_isSo_28 (40 * j + i) km_40 (by omega) <| ks_M_isSo_29 <| ks_M_isSo_30 <| ks_M_isSo_33 <| ks_M_isSo_34 <| ks_M_isSo_35 <| ks_M_isSo_36 <| ks_M_isSo_37 (fun h37 => ?_) (fun h37 => ?_)
          · rw [hn1, a1.H] at h37
            have ne : ¬ (kh_H v1).toInt64 = G i := fun q => h37 (by rw [q]; simp [lg_cmp])
            rw [decide_eq_false ne, Bool.false_and] at e1
            refine ks_M_isSo_44 <| ks_M_isSo_45 rfl <| ks_M_isSo_46 <| ks_M_isSo_47 (Nat.le_of_ble_eq_true rfl) ?_
            refine kt_M_oneMinute a1 o1 (fun μ2 a2 f2 _ => ?_)
            have g := out false (nI (i + 1)) μ2 (f1.tr f2) (e.trans e1)
            refine ks_M_isSo_50n rfl <| ks_M_isSo_53 ?_
            refine ks_M_isSo_4 <| ks_M_isSo_5 <| ks_M_isSo_6 <| ks_M_isSo_9 <| ks_M_isSo_10n (by omega) <| ks_M_isSo_11 (fun h11 => ?_) (fun h11 => ?_)
            · exact g
            · refine ks_M_isSo_14 <| ks_M_isSo_15 (fun h15 => ?_) (fun h15 => ?_)
              · exact g
              · exact absurd rfl h15
          · rw [hn1, a1.H] at h37
            have eq : (kh_H v1).toInt64 = G i := by
              unfold lg_cmp at h37
              split at h37
              · exact absurd h37 (by decide)
              · split at h37
                · next h => exact h.symm
                · exact absurd h37 (by decide)
            rw [decide_eq_true eq, Bool.true_and] at e1
            refine ks_M_isSo_40 <| ks_M_isSo_41 <| ks_M_isSo_45 rfl <| ks_M_isSo_46 <| ks_M_isSo_47 (Nat.le_of_ble_eq_true rfl) ?_
            refine kt_M_oneMinute a1 o1 (fun μ2 a2 f2 _ => ?_)
            refine ks_M_isSo_50n rfl <| ks_M_isSo_53 ?_
            exact ih (i + 1) (kh_min v1) μ2 (by omega) a2 (kh_min_ok o1 (by omega)) (by rw [kh_min_m]; omega) (f1.tr f2) (e.trans e1)
  refine ke_M_isSo ?_
  refine ks_M_isSo_0 <| ks_M_isSo_1 rfl <| ks_M_isSo_2 <| ks_M_isSo_3 rfl ?_
  exact loop L 0 v μ (by omega) ha hv hm kM_m.rf rfl
theorem ko_M_read (hz : kz_ok z) : kM_ct km_M_read [kq_I s, kq_I w] z (sp_read z s w).2 (kq_I (sp_read z s w).1) := by
  intro μ Q ha k
  have hv := hz.1.1
  have hc8 := hv.1
  have hm := hz.1.2
  refine ke_M_read ?_
  refine ks_M_read_0 <| ks_M_read_1 <| ks_M_read_2 (Nat.le_of_ble_eq_true rfl) ?_
  refine kt_M_badSheet ha ?_
  by_cases hs : 0 ≤ s ∧ s < 4
  · rw [if_neg (fun q => q hs)]
    have e0 : sp_read z s w = _ := if_neg (fun q => q hs)
    obtain ⟨j, hj, rfl⟩ := kh_ix (c := 4) (by decide) hs
    rw [kh_nat_nI (show j < 2 ^ 31 by omega)] at e0 ⊢
    have hL := hz.2.2.2.2 j hj
    by_cases hB : kz_B z j = 0
    · rw [if_pos hB] at e0 ⊢
      rw [e0] at k
      refine ks_M_read_5 rfl <| ks_M_read_6 <| ks_M_read_7 (fun h7 => ?_) (fun h7 => ?_)
      · exact absurd h7 (by decide)
      · refine ks_M_read_10 <| ks_M_read_11 <| ks_M_read_12 (Nat.le_of_ble_eq_true rfl) ?_
        refine kt_M_fin 5 ha (by decide) rfl (fun μ' a1 f1 => ?_)
        refine ks_M_read_15 ?_
        exact k μ' a1 f1
    · rw [if_neg hB] at e0 ⊢
      refine ks_M_read_5 rfl <| ks_M_read_6 <| ks_M_read_7 (fun h7 => ?_) (fun h7 => ?_)
      · refine ks_M_read_16 <| ks_M_read_17 <| ks_M_read_18 (Nat.le_of_ble_eq_true rfl) ?_
        refine kt_M_isOne ha.h hv ?_
        refine ks_M_read_21 (fun h21 => ?_) (fun h21 => ?_)
        · have hw := kq_b_t h21
          rw [if_neg (by rw [hw]; decide)] at e0
          obtain ⟨y, hy, rfl⟩ := kh_wi_ix hv hw
          rw [kh_nat_nI (show y < 2 ^ 31 by omega)] at e0
          refine ks_M_read_31 <| ks_M_read_32 <| ks_M_read_35 <| ks_M_read_36n (by omega) <| ks_M_read_37 <| ks_M_read_39 (fun h39 => ?_) (fun h39 => ?_)
          · rw [ha.L j hj, ki_le, nI_toInt (by omega), show (12 : Int32).toInt = 12 from by decide] at h39
            rw [if_neg (by omega)] at e0
            rw [e0] at k
            clear e0
            generalize hP : (fun q => kh_goes (kz_N z j) (kz_L z j) 0 (kh_setn (kh_setk (kz_h z) y (nI (q / 256))) y (nI (q % 256)))) = P at k
            have loop : ∀ (q i : Nat) (μ1 : kq_M), i + q = 1536 → kr_at μ1 21 (kz_h z) → kr_at μ1 24 (kz_h z) → kM_h μ μ1 → kq_S km_M_read 11 64 [some (kq_R 0 20), some (kq_I (nI j)), some (kq_I (nI y)), some (kq_I 0), some (kq_I (nI (kg_cnt P i))), some (kq_I (nI i))] [] μ1 Q := by
              intro q
              induction q with
              | zero =>
                intro i μ1 hi a1 t1 f1
                refine ks_M_read_64 <| ks_M_read_66 <| ks_M_read_69 (fun h69 => ?_) (fun h69 => ?_)
                · refine ks_M_read_129 <| ks_M_read_131 ?_
                  rw [show i = 1536 by omega]
                  exact k μ1 (ha.hall a1 f1) f1.P
                · rw [ki_le, nI_toInt (by omega), show (1536 : Int32).toInt = 1536 from by decide] at h69
                  omega
              | succ q ih =>
                intro i μ1 hi a1 t1 f1
                have a0 : kM_at μ1 z := ha.hall a1 f1
                refine ks_M_read_64 <| ks_M_read_66 <| ks_M_read_69 (fun h69 => ?_) (fun h69 => ?_)
                · rw [ki_le, nI_toInt (by omega), show (1536 : Int32).toInt = 1536 from by decide] at h69
                  omega
                · refine ks_M_read_72 <| ks_M_read_73 <| ks_M_read_74 <| ks_M_read_75 <| ks_M_read_77 <| ks_M_read_80 <| ks_M_read_81 (Nat.le_of_ble_eq_true rfl) ?_
                  rw [show (256 : Int32) = nI 256 from rfl, pk_div (by omega) (by decide) (by decide)]
                  refine kt_M_puts (q := 0) (by omega) (by decide) ?_
                  refine ks_M_read_84 <| ks_M_read_85 <| ks_M_read_86 <| ks_M_read_87 <| ks_M_read_89 <| ks_M_read_92 <| ks_M_read_93 (Nat.le_of_ble_eq_true rfl) ?_
                  rw [show (256 : Int32) = nI 256 from rfl, pk_rem (by omega) (by decide) (by decide)]
                  refine kt_M_puts (q := 1) (by omega) (by decide) ?_
                  have a2 := (a1.wk (w0 := y) (x := nI (i / 256))).wn (w0 := y) (x := nI (i % 256))
                  have o2 : kh_ok (kh_setn (kh_setk (kz_h z) y (nI (i / 256))) y (nI (i % 256))) := kh_setn_ok (kh_setk_ok hv (kh_in_of 5 (by omega) (by decide) (by decide))) (kh_in_of 255 (by omega) (by decide) (by decide))
                  have f2 : kM_m μ1 (kq_wI (kq_wI μ1 0 21 (7 + 4 * y) (nI (i / 256))) 0 21 (7 + 4 * y + 1) (nI (i % 256))) := kM_m.rf.row.row
                  refine ks_M_read_96 <| ks_M_read_98 <| ks_M_read_99 <| ks_M_read_100 (Nat.le_of_ble_eq_true rfl) ?_
                  refine kt_M_isSo a2 o2 hj hL ((f2.1.1 _ _ _ (fun q => by omega)).trans (a0.L j hj)) (by show kh_m (kz_h z) + _ < _; omega) (fun μ4 f4 => ?_)
                  have eP : kh_goes (fun u => kq_rL (kq_wI (kq_wI μ1 0 21 (7 + 4 * y + 0) (nI (i / 256))) 0 21 (7 + 4 * y + 1) (nI (i % 256))) 0 28 (40 * j + u)) (kz_L z j) 0 (kh_setn (kh_setk (kz_h z) y (nI (i / 256))) y (nI (i % 256))) = P i := by
                    rw [← hP]
                    exact kh_goes_cg _ _ _ (fun u _ hu => (a0.N j hj u (by omega)))
                  rw [eP]
                  have f5 := f2.tr f4
                  have t5 : kr_at μ4 24 (kz_h z) := t1.fr f5.1 (fun q => by omega)
                  have e1 : kg_cnt P (i + 1) = kg_cnt P i + (if P i then 1 else 0) := rfl
                  have fin : ∀ e : Int32, nI (kg_cnt P i) + e = nI (kg_cnt P (i + 1)) → kq_S km_M_read 11 111 [some (kq_R 0 20), some (kq_I (nI j)), some (kq_I (nI y)), some (kq_I 0), some (kq_I (nI (kg_cnt P i))), some (kq_I (nI i))] [kq_I e, kq_I (nI (kg_cnt P i))] μ4 Q := by
                    intro e he
                    refine ks_M_read_111 <| ks_M_read_112 rfl <| ks_M_read_114 <| ks_M_read_115 <| ks_M_read_116 <| ks_M_read_117 <| ks_M_read_120 (Nat.le_of_ble_eq_true rfl) ?_
                    rw [he]
                    refine kt_M_back (i := 24) rfl rfl rfl rfl (by decide) (fun μ6 e6 f6 => ?_)
                    refine ks_M_read_123n rfl <| ks_M_read_126 ?_
                    exact ih (i + 1) μ6 (by omega) (t5.cp hc8 e6) (t5.fr f6 (fun q => by cases q.2)) ((f1.tr f5.h).tr (kM_h.st (by decide) f6))
                  refine ks_M_read_103 (fun h103 => ?_) (fun h103 => ?_)
                  · rw [kq_b_f h103, if_neg (by decide)] at e1
                    refine ks_M_read_110 ?_
                    exact fin 0 (by rw [e1]; exact Int32.add_zero _)
                  · rw [kq_b_t h103, if_pos rfl] at e1
                    refine ks_M_read_106 <| ks_M_read_107 ?_
                    exact fin 1 (by rw [e1, nI_1])
            refine ks_M_read_49 <| ks_M_read_50 rfl <| ks_M_read_52 <| ks_M_read_53 <| ks_M_read_54 <| ks_M_read_55 <| ks_M_read_58 (Nat.le_of_ble_eq_true rfl) ?_
            refine kt_M_keep (i := 24) rfl rfl rfl rfl (by decide) (fun μ1 e1 f1 => ?_)
            refine ks_M_read_61 <| ks_M_read_62 rfl ?_
            exact loop 1536 0 μ1 rfl (ha.h.fr f1 (fun q => by cases q.2)) (ha.h.cp hc8 e1) (kM_h.st (by decide) f1)
          · rw [ha.L j hj, ki_le, nI_toInt (by omega), show (12 : Int32).toInt = 12 from by decide] at h39
            rw [if_pos (by omega)] at e0
            rw [e0] at k
            refine ks_M_read_42 <| ks_M_read_43 <| ks_M_read_45 (Nat.le_of_ble_eq_true rfl) ?_
            refine kt_M_fin 6 ha (by decide) (by decide) (fun μ' a1 f1 => ?_)
            refine ks_M_read_48 ?_
            exact k μ' a1 f1
        · rw [if_pos (kq_b_f h21)] at e0
          rw [e0] at k
          refine ks_M_read_24 <| ks_M_read_25 <| ks_M_read_27 (Nat.le_of_ble_eq_true rfl) ?_
          refine kt_M_fin 0 ha (by decide) (by decide) (fun μ' a1 f1 => ?_)
          refine ks_M_read_30 ?_
          exact k μ' a1 f1
      · exact absurd rfl h7
  · rw [if_pos hs]
    rw [show sp_read z s w = kz_F z 0 from if_pos hs] at k
    refine ks_M_read_5 rfl <| ks_M_read_6 <| ks_M_read_7 (fun h7 => ?_) (fun h7 => ?_)
    · exact absurd h7 (by decide)
    · refine ks_M_read_10 <| ks_M_read_11 <| ks_M_read_12 (Nat.le_of_ble_eq_true rfl) ?_
      refine kt_M_fin 0 ha (by decide) rfl (fun μ' a1 f1 => ?_)
      refine ks_M_read_15 ?_
      exact k μ' a1 f1
end KM16
