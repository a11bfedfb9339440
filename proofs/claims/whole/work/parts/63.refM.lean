/-! THE REFERENCE: its calls (10): copy, lays, book -/
section KM13
variable {z : kz_S} {w a x n s f b i : Int32}
theorem kt_M_isPart {d j : Nat} {μ : kq_M} {Q : Option kq_V → kq_M → Prop} (ha : kM_at μ z) (hj : j < 4) (k : Q (some (kq_I (kq_b (kg_str (kz_L z j) f n)))) μ) : kq_Call d km_M_isPart [kq_R 0 20, kq_I (nI j), kq_I f, kq_I n] μ Q := by
  have no : ¬ (0 ≤ f ∧ 0 ≤ n ∧ n ≤ nI (kz_L z j) ∧ f ≤ nI (kz_L z j) - n) → kq_S km_M_isPart d 34 [some (kq_R 0 20), some (kq_I (nI j)), some (kq_I f), some (kq_I n)] [] μ Q := by
    intro h
    rw [show kg_str (kz_L z j) f n = false from decide_eq_false h] at k
    refine ks_M_isPart_34 <| ks_M_isPart_35 (by first | exact kq_b01' _ | exact Or.inl rfl | exact Or.inr rfl | assumption) ?_
    exact k
  refine ke_M_isPart ?_
  refine ks_M_isPart_0 <| ks_M_isPart_1 (fun h1 => ?_) (fun h1 => ?_)
  · exact no (fun q => by rw [ki_lt] at h1; have := q.1; rw [ki_le] at this; omega)
  · refine ks_M_isPart_4 <| ks_M_isPart_5 (fun h5 => ?_) (fun h5 => ?_)
    · exact no (fun q => by rw [ki_lt] at h5; have := q.2.1; rw [ki_le] at this; omega)
    · refine ks_M_isPart_8 <| ks_M_isPart_9 <| ks_M_isPart_10 <| ks_M_isPart_13 <| ks_M_isPart_14n (by omega) <| ks_M_isPart_15 (fun h15 => ?_) (fun h15 => ?_)
      · rw [ha.L j hj] at h15
        exact no (fun q => by rw [ki_lt] at h15; have := q.2.2.1; rw [ki_le] at this; omega)
      · refine ks_M_isPart_18 <| ks_M_isPart_19 <| ks_M_isPart_20 <| ks_M_isPart_23 <| ks_M_isPart_24n (by omega) <| ks_M_isPart_25 <| ks_M_isPart_26 <| ks_M_isPart_27 (fun h27 => ?_) (fun h27 => ?_)
        · rw [ha.L j hj] at h27
          exact no (fun q => by rw [ki_lt] at h27; have := q.2.2.2; rw [ki_le] at this; omega)
        · rw [ha.L j hj] at h15 h27
          refine ks_M_isPart_30 <| ks_M_isPart_31 <| ks_M_isPart_35 (by first | exact kq_b01' _ | exact Or.inl rfl | exact Or.inr rfl | assumption) ?_
          rw [show kg_str (kz_L z j) f n = true from decide_eq_true ⟨by rw [ki_le]; rw [ki_lt] at h1; omega, by rw [ki_le]; rw [ki_lt] at h5; omega, by rw [ki_le]; rw [ki_lt] at h15; omega, by rw [ki_le]; rw [ki_lt] at h27; omega⟩] at k
          exact k
theorem km_403 {j p q : Nat} : 40 * nI j + nI p + nI q = nI (40 * j + p + q) := by rw [km_40, nI_add]
theorem ko_M_copy {t to : Int32} (hz : kz_ok z) : kM_ct km_M_copy [kq_I s, kq_I f, kq_I t, kq_I to, kq_I n] z (sp_copy z s f t to n).2 (kq_I (sp_copy z s f t to n).1) := by
  intro μ Q ha k
  have bad : ¬ ((0 ≤ s ∧ s < 4) ∧ (0 ≤ t ∧ t < 4)) → kq_S km_M_copy 11 14 [some (kq_R 0 20), some (kq_I s), some (kq_I f), some (kq_I t), some (kq_I to), some (kq_I n), none] [] μ Q := by
    intro h
    rw [show sp_copy z s f t to n = kz_F z 0 from if_pos h] at k
    refine ks_M_copy_14 <| ks_M_copy_15 <| ks_M_copy_17 (Nat.le_of_ble_eq_true rfl) ?_
    refine kt_M_fin 0 ha (by decide) (by decide) (fun μ' a1 f1 => ?_)
    refine ks_M_copy_20 ?_
    exact k μ' a1 f1
  refine ke_M_copy ?_
  refine ks_M_copy_0 <| ks_M_copy_1 (Nat.le_of_ble_eq_true rfl) ?_
  refine kt_M_isSheet ?_
  refine ks_M_copy_4 (fun h4 => ?_) (fun h4 => ?_)
  · exact bad (fun q => of_decide_eq_false (kq_b_f h4) q.1)
  · have hs := of_decide_eq_true (kq_b_t h4)
    refine ks_M_copy_7 <| ks_M_copy_8 (Nat.le_of_ble_eq_true rfl) ?_
    refine kt_M_isSheet ?_
    refine ks_M_copy_11 (fun h11 => ?_) (fun h11 => ?_)
    · have ht := of_decide_eq_true (kq_b_t h11)
      have e0 : sp_copy z s f t to n = _ := if_neg (fun q => q ⟨hs, ht⟩)
      obtain ⟨j, hj, rfl⟩ := kh_ix (c := 4) (by decide) hs
      obtain ⟨l, hl, rfl⟩ := kh_ix (c := 4) (by decide) ht
      rw [kh_nat_nI (show j < 2 ^ 31 by omega), kh_nat_nI (show l < 2 ^ 31 by omega)] at e0
      have hLj := hz.2.2.2.2 j hj
      have hLl := hz.2.2.2.2 l hl
      have miss : (kz_B z j = 0 ∨ kz_B z l = 0) → kq_S km_M_copy 11 39 [some (kq_R 0 20), some (kq_I (nI j)), some (kq_I f), some (kq_I (nI l)), some (kq_I to), some (kq_I n), none] [] μ Q := by
        intro h
        rw [if_pos h] at e0
        rw [e0] at k
        refine ks_M_copy_39 <| ks_M_copy_40 <| ks_M_copy_42 (Nat.le_of_ble_eq_true rfl) ?_
        refine kt_M_fin 5 ha (by decide) (by decide) (fun μ' a1 f1 => ?_)
        refine ks_M_copy_45 ?_
        exact k μ' a1 f1
      refine ks_M_copy_21 <| ks_M_copy_22 <| ks_M_copy_25 <| ks_M_copy_26n (by omega) <| ks_M_copy_27 (fun h27 => ?_) (fun h27 => ?_)
      · rw [ha.B j hj] at h27
        exact miss (Or.inl h27)
      · rw [ha.B j hj] at h27
        refine ks_M_copy_30 <| ks_M_copy_31 <| ks_M_copy_34 <| ks_M_copy_35n (by omega) <| ks_M_copy_36 (fun h36 => ?_) (fun h36 => ?_)
        · rw [ha.B l hl] at h36
          rw [if_neg (fun q => q.elim h27 h36)] at e0
          refine ks_M_copy_46 <| ks_M_copy_47 <| ks_M_copy_50 <| ks_M_copy_51n (by omega) <| ks_M_copy_52 <| ks_M_copy_53 <| ks_M_copy_56 <| ks_M_copy_57n (by omega) <| ks_M_copy_58 (fun h58 => ?_) (fun h58 => ?_)
          · rw [ha.B j hj, ha.B l hl] at h58
            rw [if_neg (fun q => q h58)] at e0
            have no : ¬ (kg_str (kz_L z j) f n = true ∧ kg_str (kz_L z l) to n = true) → kq_S km_M_copy 11 91 [some (kq_R 0 20), some (kq_I (nI j)), some (kq_I f), some (kq_I (nI l)), some (kq_I to), some (kq_I n), none] [] μ Q := by
              intro h
              rw [if_pos h] at e0
              rw [e0] at k
              refine ks_M_copy_91 <| ks_M_copy_92 <| ks_M_copy_94 (Nat.le_of_ble_eq_true rfl) ?_
              refine kt_M_fin 0 ha (by decide) (by decide) (fun μ' a1 f1 => ?_)
              refine ks_M_copy_97 ?_
              exact k μ' a1 f1
            refine ks_M_copy_68 <| ks_M_copy_69 <| ks_M_copy_70 <| ks_M_copy_71 <| ks_M_copy_73 (Nat.le_of_ble_eq_true rfl) ?_
            refine kt_M_isPart ha hj ?_
            refine ks_M_copy_76 (fun h76 => ?_) (fun h76 => ?_)
            · exact no (fun q => by rw [kq_b_f h76] at q; exact absurd q.1 (by decide))
            · refine ks_M_copy_79 <| ks_M_copy_80 <| ks_M_copy_81 <| ks_M_copy_83 <| ks_M_copy_85 (Nat.le_of_ble_eq_true rfl) ?_
              refine kt_M_isPart ha hl ?_
              refine ks_M_copy_88 (fun h88 => ?_) (fun h88 => ?_)
              · have g1 := kq_b_t h76
                have g2 := kq_b_t h88
                rw [if_neg (fun q => q ⟨g1, g2⟩)] at e0
                obtain ⟨p, m, rfl, rfl, hpm⟩ := kg_str_ix hLj g1
                obtain ⟨p', m', rfl, em, hpm'⟩ := kg_str_ix hLl g2
                have em' : m = m' := by
                  have := (ki_eq _ _).mp em
                  rw [nI_toInt (by omega), nI_toInt (by omega)] at this
                  omega
                subst em'
                rw [kh_nat_nI (show p < 2 ^ 31 by omega), kh_nat_nI (show p' < 2 ^ 31 by omega), kh_nat_nI (show m < 2 ^ 31 by omega)] at e0
                rw [e0] at k
                have two : ∀ (q c : Nat) (μ1 : kq_M), c + q = m → kq_fr kM_PS μ μ1 → (∀ y, kq_rI μ1 0 26 y = kq_rI μ 0 26 y) → (∀ y, kq_rI μ1 0 27 y = kq_rI μ 0 27 y) → (∀ y, y < m → kq_rL μ1 0 29 y = kq_rL μ 0 28 (40 * j + p + y)) → (∀ y, kq_rL μ1 0 28 y = if 40 * l + p' ≤ y ∧ y < 40 * l + p' + c then kq_rL μ 0 28 (40 * j + p + (y - (40 * l + p'))) else kq_rL μ 0 28 y) → kq_S km_M_copy 11 138 [some (kq_R 0 20), some (kq_I (nI j)), some (kq_I (nI p)), some (kq_I (nI l)), some (kq_I (nI p')), some (kq_I (nI m)), some (kq_I (nI c))] [] μ1 Q := by
                  intro q
                  induction q with
                  | zero =>
                    intro c μ1 hc f1 e1 e2 e3 e4
                    refine ks_M_copy_138 <| ks_M_copy_140 <| ks_M_copy_142 (fun h142 => ?_) (fun h142 => ?_)
                    · refine ks_M_copy_173 <| ks_M_copy_175 ?_
                      refine k μ1 (ha.sheets f1 (fun y hy => (e1 y).trans (ha.B y hy)) (fun y hy => (e2 y).trans (ha.L y hy)) (fun y hy u hu => ?_)) (kM_frS f1)
                      rw [e4]
                      unfold kg_cpy va_up
                      by_cases ey : y = l
                      · rw [if_pos ey]
                        subst ey
                        by_cases eu : p' ≤ u ∧ u < p' + m
                        · rw [if_pos eu, if_pos (by omega), show 40 * j + p + (40 * y + u - (40 * y + p')) = 40 * j + (p + (u - p')) by omega]
                          exact ha.N j hj _ (by omega)
                        · rw [if_neg eu, if_neg (by omega)]
                          exact ha.N y hy u hu
                      · rw [if_neg ey, if_neg (by omega)]
                        exact ha.N y hy u hu
                    · exact absurd (nI_le (show m ≤ c by omega) (by omega)) h142
                  | succ q ih =>
                    intro c μ1 hc f1 e1 e2 e3 e4
                    refine ks_M_copy_138 <| ks_M_copy_140 <| ks_M_copy_142 (fun h142 => ?_) (fun h142 => ?_)
                    · exact absurd h142 (nI_ge (show c < m by omega) (by omega))
                    · refine ks_M_copy_145 <| ks_M_copy_146 <| ks_M_copy_149 <| ks_M_copy_151 <| ks_M_copy_152 <| ks_M_copy_153 <| ks_M_copy_155 <| ks_M_copy_156 <| ks_M_copy_158 <| ks_M_copy_159 <| ks_M_copy_160 <| ks_M_copy_163 <| ks_M_copy_165n (by omega) <| ks_M_copy_166 (40 * l + p' + c) km_403 (by omega) <| ks_M_copy_167n rfl <| ks_M_copy_170 ?_
                      refine ih (c + 1) _ (by omega) (f1.wL ⟨rfl, Or.inr (Or.inr (Or.inl rfl))⟩) e1 e2 (fun y hy => ?_) (fun y => ?_)
                      · rw [kq_rL_wL, if_neg (fun q => absurd q.2.1 (by decide))]
                        exact e3 y hy
                      · by_cases ey : y = 40 * l + p' + c
                        · rw [ey, kw_ws, e3 c (by omega), if_pos (by omega), show 40 * l + p' + c - (40 * l + p') = c by omega]
                        · rw [kw_wr ey, e4 y]
                          by_cases e5 : 40 * l + p' ≤ y ∧ y < 40 * l + p' + c
                          · rw [if_pos e5, if_pos (by omega)]
                          · rw [if_neg e5, if_neg (by omega)]
                have one : ∀ (q c : Nat) (μ1 : kq_M), c + q = m → kq_fr (fun a b => a = 0 ∧ b = 29) μ μ1 → (∀ y, y < c → kq_rL μ1 0 29 y = kq_rL μ 0 28 (40 * j + p + y)) → kq_S km_M_copy 11 101 [some (kq_R 0 20), some (kq_I (nI j)), some (kq_I (nI p)), some (kq_I (nI l)), some (kq_I (nI p')), some (kq_I (nI m)), some (kq_I (nI c))] [] μ1 Q := by
                  intro q
                  induction q with
                  | zero =>
                    intro c μ1 hc f1 e3
                    refine ks_M_copy_101 <| ks_M_copy_103 <| ks_M_copy_105 (fun h105 => ?_) (fun h105 => ?_)
                    · refine ks_M_copy_135 <| ks_M_copy_136 rfl ?_
                      refine two m 0 μ1 (by omega) (f1.mono (fun a b q => ⟨q.1, Or.inr (Or.inr (Or.inr q.2))⟩)) (fun y => f1.1 _ _ _ (fun q => by cases q.2)) (fun y => f1.1 _ _ _ (fun q => by cases q.2)) (fun y hy => e3 y (by omega)) (fun y => ?_)
                      rw [if_neg (by omega)]
                      exact f1.2.1 _ _ _ (fun q => by cases q.2)
                    · exact absurd (nI_le (show m ≤ c by omega) (by omega)) h105
                  | succ q ih =>
                    intro c μ1 hc f1 e3
                    refine ks_M_copy_101 <| ks_M_copy_103 <| ks_M_copy_105 (fun h105 => ?_) (fun h105 => ?_)
                    · exact absurd h105 (nI_ge (show c < m by omega) (by omega))
                    · refine ks_M_copy_108 <| ks_M_copy_109 <| ks_M_copy_112 <| ks_M_copy_114 <| ks_M_copy_115 <| ks_M_copy_118 <| ks_M_copy_120 <| ks_M_copy_121 <| ks_M_copy_122 <| ks_M_copy_123 <| ks_M_copy_124 <| ks_M_copy_126 <| ks_M_copy_127 (40 * j + p + c) km_403 (by omega) <| ks_M_copy_128n (by omega) <| ks_M_copy_129n rfl <| ks_M_copy_132 ?_
                      refine ih (c + 1) _ (by omega) (f1.wL ⟨rfl, rfl⟩) (fun y hy => ?_)
                      rw [kq_rL_wL]
                      by_cases ey : y = c
                      · rw [if_pos ⟨rfl, rfl, ey⟩, ey]
                        exact f1.2.1 _ _ _ (fun q => by cases q.2)
                      · rw [if_neg (fun q => ey q.2.2)]
                        exact e3 y (by omega)
                refine ks_M_copy_98 <| ks_M_copy_99 rfl ?_
                exact one m 0 μ (by omega) kq_fr.rf (fun y hy => absurd hy (by omega))
              · exact no (fun q => by rw [kq_b_f h88] at q; exact absurd q.2 (by decide))
          · rw [ha.B j hj, ha.B l hl] at h58
            rw [if_pos h58] at e0
            rw [e0] at k
            refine ks_M_copy_61 <| ks_M_copy_62 <| ks_M_copy_64 (Nat.le_of_ble_eq_true rfl) ?_
            refine kt_M_fin 2 ha (by decide) (by decide) (fun μ' a1 f1 => ?_)
            refine ks_M_copy_67 ?_
            exact k μ' a1 f1
        · rw [ha.B l hl] at h36
          exact miss (Or.inr h36)
    · exact bad (fun q => of_decide_eq_false (kq_b_f h11) q.2)
end KM13
