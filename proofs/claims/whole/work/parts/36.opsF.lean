/-! THE CLASS's SHEETS (2) -/
theorem lc_lt {x y : Int64} : lg_cmp x y < 0 ↔ x < y := by
  unfold lg_cmp
  by_cases h : x > y
  · rw [if_pos h]
    exact ⟨fun q => absurd q (by decide), fun q => by rw [Int64.lt_iff_toInt_lt] at q; have h' : y < x := h; rw [Int64.lt_iff_toInt_lt] at h'; omega⟩
  · rw [if_neg h]
    have h' : ¬ y < x := h
    rw [Int64.lt_iff_toInt_lt] at h'
    by_cases e : x = y
    · rw [if_pos e]
      exact ⟨fun q => absurd q (by decide), fun q => by rw [Int64.lt_iff_toInt_lt, e] at q; omega⟩
    · rw [if_neg e]
      refine ⟨fun _ => ?_, fun _ => by decide⟩
      rw [Int64.lt_iff_toInt_lt]
      have : x.toInt ≠ y.toInt := fun q => e (Int64.toInt_inj.mp q)
      omega
theorem lc_gt {x y : Int64} : 0 < lg_cmp x y ↔ y < x := by
  unfold lg_cmp
  by_cases h : x > y
  · rw [if_pos h]
    exact ⟨fun _ => h, fun _ => by decide⟩
  · rw [if_neg h]
    refine ⟨fun q => ?_, fun q => absurd q h⟩
    split at q
    · exact absurd q (by decide)
    · exact absurd q (by decide)
section KO6
variable {z : kz_S} {s b n i a w : Int32}
theorem kg_str_ix {L : Nat} {f n : Int32} (hL : L ≤ 40) (h : kg_str L f n = true) : ∃ p m : Nat, f = nI p ∧ n = nI m ∧ p + m ≤ L := by
  obtain ⟨h1, h2, h3, h4⟩ := of_decide_eq_true h
  obtain ⟨m, hm, rfl⟩ := nI_of (x := n) (by rw [ki_lt]; rw [ki_le] at h2; omega)
  obtain ⟨p, hp, rfl⟩ := nI_of (x := f) (by rw [ki_lt]; rw [ki_le] at h1; omega)
  rw [ki_le, nI_toInt (by omega), nI_toInt (by omega)] at h3
  rw [ki_le, ki_sub (by rw [nI_toInt (by omega)]; omega) (by rw [nI_toInt (by omega)]; omega), nI_toInt (by omega), nI_toInt (by omega), nI_toInt (by omega)] at h4
  exact ⟨p, m, rfl, rfl, by omega⟩
theorem ko_K_copy {f t to : Int32} (hz : kz_ok z) : kK_ct km_K_copy [kq_I s, kq_I f, kq_I t, kq_I to, kq_I n] z (sp_copy z s f t to n).2 (kq_I (sp_copy z s f t to n).1) := by
  intro μ Q ha k
  have bad : ¬ ((0 ≤ s ∧ s < 4) ∧ (0 ≤ t ∧ t < 4)) → kq_S km_K_copy 11 14 [some (kq_R 0 0), some (kq_I s), some (kq_I f), some (kq_I t), some (kq_I to), some (kq_I n), none, none] [] μ Q := by
    intro h
    rw [show sp_copy z s f t to n = kz_F z 0 from if_pos h] at k
    refine ks_K_copy_14 <| ks_K_copy_15 <| ks_K_copy_16 (Nat.le_of_ble_eq_true rfl) ?_
    refine kt_K_fin 0 ha (by decide) (fun μ' a1 f1 => ?_)
    refine ks_K_copy_19 ?_
    exact k μ' a1 f1
  refine ke_K_copy ?_
  refine ks_K_copy_0 <| ks_K_copy_1 (Nat.le_of_ble_eq_true rfl) ?_
  refine kt_K_isSheet ?_
  refine ks_K_copy_4 (fun h4 => ?_) (fun h4 => ?_)
  · exact bad (fun q => of_decide_eq_false (kq_b_f h4) q.1)
  · have hs := of_decide_eq_true (kq_b_t h4)
    refine ks_K_copy_7 <| ks_K_copy_8 (Nat.le_of_ble_eq_true rfl) ?_
    refine kt_K_isSheet ?_
    refine ks_K_copy_11 (fun h11 => ?_) (fun h11 => ?_)
    · have ht := of_decide_eq_true (kq_b_t h11)
      have e0 : sp_copy z s f t to n = _ := if_neg (fun q => q ⟨hs, ht⟩)
      obtain ⟨j, hj, rfl⟩ := kh_ix (c := 4) (by decide) hs
      obtain ⟨l, hl, rfl⟩ := kh_ix (c := 4) (by decide) ht
      rw [kh_nat_nI (show j < 2 ^ 31 by omega), kh_nat_nI (show l < 2 ^ 31 by omega)] at e0
      have hbj := kb4 hj
      have hbl := kb4 hl
      have hLj := hz.2.2.2.2 j hj
      have hLl := hz.2.2.2.2 l hl
      have miss : (kz_B z j = 0 ∨ kz_B z l = 0) → kq_S km_K_copy 11 52 [some (kq_R 0 0), some (kq_I (nI j)), some (kq_I f), some (kq_I (nI l)), some (kq_I to), some (kq_I n), some (kq_R j 8), some (kq_R l 8)] [] μ Q := by
        intro h
        rw [if_pos h] at e0
        rw [e0] at k
        refine ks_K_copy_52 <| ks_K_copy_53 <| ks_K_copy_54 (Nat.le_of_ble_eq_true rfl) ?_
        refine kt_K_fin 5 ha (by decide) (fun μ' a1 f1 => ?_)
        refine ks_K_copy_57 ?_
        exact k μ' a1 f1
      refine ks_K_copy_20 <| ks_K_copy_21 <| ks_K_copy_24 <| ks_K_copy_25n (by omega) <| ks_K_copy_26 rfl rfl <| ks_K_copy_28 <| ks_K_copy_29 <| ks_K_copy_32 <| ks_K_copy_33n (by omega) <| ks_K_copy_34 rfl rfl <| ks_K_copy_36 <| ks_K_copy_38 (by first | rfl | assumption) (Nat.le_of_ble_eq_true rfl) ?_
      refine kt_S_isMissing hbj ?_
      refine ks_K_copy_41 (fun h41 => ?_) (fun h41 => ?_)
      · have h := of_decide_eq_true (kq_b_t h41)
        rw [ha.B j hj] at h
        exact miss (Or.inl h)
      · have h := of_decide_eq_false (kq_b_f h41)
        rw [ha.B j hj] at h
        refine ks_K_copy_44 <| ks_K_copy_46 (by first | rfl | assumption) (Nat.le_of_ble_eq_true rfl) ?_
        refine kt_S_isMissing hbl ?_
        refine ks_K_copy_49 (fun h49 => ?_) (fun h49 => ?_)
        · have h' := of_decide_eq_false (kq_b_f h49)
          rw [ha.B l hl] at h'
          rw [if_neg (fun q => q.elim h h')] at e0
          refine ks_K_copy_58 <| ks_K_copy_60 (by first | rfl | assumption) <| ks_K_copy_63 <| ks_K_copy_65 (by first | rfl | assumption) <| ks_K_copy_68 (fun h68 => ?_) (fun h68 => ?_)
          · rw [ha.B j hj, ha.B l hl] at h68
            rw [if_neg (fun q => q h68)] at e0
            have no : ¬ (kg_str (kz_L z j) f n = true ∧ kg_str (kz_L z l) to n = true) → kq_S km_K_copy 11 100 [some (kq_R 0 0), some (kq_I (nI j)), some (kq_I f), some (kq_I (nI l)), some (kq_I to), some (kq_I n), some (kq_R j 8), some (kq_R l 8)] [] μ Q := by
              intro h
              rw [if_pos h] at e0
              rw [e0] at k
              refine ks_K_copy_100 <| ks_K_copy_101 <| ks_K_copy_102 (Nat.le_of_ble_eq_true rfl) ?_
              refine kt_K_fin 0 ha (by decide) (fun μ' a1 f1 => ?_)
              refine ks_K_copy_105 ?_
              exact k μ' a1 f1
            refine ks_K_copy_77 <| ks_K_copy_79 <| ks_K_copy_80 <| ks_K_copy_82 (by first | rfl | assumption) (Nat.le_of_ble_eq_true rfl) ?_
            refine kt_S_hasStretch hbj (ha.L j hj) ?_
            refine ks_K_copy_85 (fun h85 => ?_) (fun h85 => ?_)
            · exact no (fun q => by rw [kq_b_f h85] at q; exact absurd q.1 (by decide))
            · refine ks_K_copy_88 <| ks_K_copy_90 <| ks_K_copy_92 <| ks_K_copy_94 (by first | rfl | assumption) (Nat.le_of_ble_eq_true rfl) ?_
              refine kt_S_hasStretch hbl (ha.L l hl) ?_
              refine ks_K_copy_97 (fun h97 => ?_) (fun h97 => ?_)
              · have g1 := kq_b_t h85
                have g2 := kq_b_t h97
                rw [if_neg (fun q => q ⟨g1, g2⟩)] at e0
                obtain ⟨p, m, rfl, rfl, hpm⟩ := kg_str_ix hLj g1
                obtain ⟨p', m', rfl, em, hpm'⟩ := kg_str_ix hLl g2
                have em' : m = m' := by
                  have := (ki_eq _ _).mp em
                  obtain ⟨-, -, g3, -⟩ := of_decide_eq_true g2
                  by_cases hm' : m' < 2 ^ 31
                  · rw [nI_toInt (by omega), nI_toInt hm'] at this
                    omega
                  · omega
                subst em'
                rw [kh_nat_nI (show p < 2 ^ 31 by omega), kh_nat_nI (show p' < 2 ^ 31 by omega), kh_nat_nI (show m < 2 ^ 31 by omega)] at e0
                rw [e0] at k
                refine ks_K_copy_106 <| ks_K_copy_108 (by first | rfl | assumption) <| ks_K_copy_111 <| ks_K_copy_112 <| ks_K_copy_114 (by first | rfl | assumption) <| ks_K_copy_117 <| ks_K_copy_119 <| ks_K_copy_121 p p' m hbj hbl rfl rfl rfl (by omega) (by omega) (Nat.le_of_ble_eq_true rfl) <| ks_K_copy_124 <| ks_K_copy_126 ?_
                have f1 : kq_fr kK_PS μ (kq_cL μ j 9 p l 9 p' m) := ⟨fun _ _ _ _ => rfl, fun x y c h => by rw [kq_rL_cL, if_neg (fun q => h (Or.inr (Or.inl q.2.1)))], rfl⟩
                refine k _ (ha.sheets f1 ha.B ha.L (fun x hx y hy => ?_)) (kK_frS f1)
                rw [kq_rL_cL]
                unfold kg_cpy va_up
                by_cases e : x = l
                · rw [if_pos e]
                  by_cases e2 : p' ≤ y ∧ y < p' + m
                  · rw [if_pos e2, if_pos ⟨e, rfl, e2⟩]
                    exact ha.N j hj _ (by omega)
                  · rw [if_neg e2, if_neg (fun t => e2 t.2.2), e]
                    exact ha.N l hl y hy
                · rw [if_neg e, if_neg (fun t => e t.1)]
                  exact ha.N x hx y hy
              · exact no (fun q => by rw [kq_b_f h97] at q; exact absurd q.2 (by decide))
          · rw [ha.B j hj, ha.B l hl] at h68
            rw [if_pos h68] at e0
            rw [e0] at k
            refine ks_K_copy_71 <| ks_K_copy_72 <| ks_K_copy_73 (Nat.le_of_ble_eq_true rfl) ?_
            refine kt_K_fin 2 ha (by decide) (fun μ' a1 f1 => ?_)
            refine ks_K_copy_76 ?_
            exact k μ' a1 f1
        · have h' := of_decide_eq_true (kq_b_t h49)
          rw [ha.B l hl] at h'
          exact miss (Or.inr h')
    · exact bad (fun q => of_decide_eq_false (kq_b_f h11) q.2)
theorem ko_K_lays (hz : kz_ok z) : kK_ct km_K_lays [kq_I s] z (sp_lays z s).2 (kq_I (sp_lays z s).1) := by
  intro μ Q ha k
  have hv := hz.1.1
  have hc8 := hv.1
  refine ke_K_lays ?_
  refine ks_K_lays_0 <| ks_K_lays_1 (Nat.le_of_ble_eq_true rfl) ?_
  refine kt_K_isSheet ?_
  refine ks_K_lays_4 (fun h4 => ?_) (fun h4 => ?_)
  · have hs := of_decide_eq_true (kq_b_t h4)
    have e0 : sp_lays z s = _ := if_neg (fun q => q hs)
    obtain ⟨j, hj, rfl⟩ := kh_ix (c := 4) (by decide) hs
    rw [kh_nat_nI (show j < 2 ^ 31 by omega)] at e0
    have hb4 := kb4 hj
    have hL := hz.2.2.2.2 j hj
    refine ks_K_lays_13 <| ks_K_lays_14 <| ks_K_lays_17 <| ks_K_lays_18n (by omega) <| ks_K_lays_19 rfl rfl <| ks_K_lays_20 <| ks_K_lays_21 (by first | rfl | assumption) (Nat.le_of_ble_eq_true rfl) ?_
    refine kt_S_isMissing hb4 ?_
    refine ks_K_lays_24 (fun h24 => ?_) (fun h24 => ?_)
    · have h := of_decide_eq_false (kq_b_f h24)
      rw [ha.B j hj] at h
      rw [if_neg h] at e0
      rw [e0] at k
      clear e0
      have loop : ∀ (q i m : Nat) (v1 : kh_S) (μ1 : kq_M) (o o' : Option kq_V), i + q = min (kz_L z j) (kh_c (kz_h z)) → kh_c v1 = kh_c (kz_h z) → kc_at μ1 1 v1 → kq_fr (kc_P 1) μ μ1 → kg_lays (kz_N z j) q i v1 m = kg_lays (kz_N z j) (min (kz_L z j) (kh_c (kz_h z))) 0 (kz_h z) 0 → kq_S km_K_lays 11 38 [some (kq_R 0 0), some (kq_I (nI j)), some (kq_R j 8), some (kq_I (nI m)), some (kq_I (nI i)), o, o'] [] μ1 Q := by
        intro q
        induction q with
        | zero =>
          intro i m v1 μ1 o o' hi hc a1 f1 hg
          rw [← hg] at k
          have hl1 : kq_rI μ1 j 8 1 = nI (kz_L z j) := (f1.1 j 8 1 (fun q => absurd q.2.2 (by decide))).trans (ha.L j hj)
          have out : kq_S km_K_lays 11 106 [some (kq_R 0 0), some (kq_I (nI j)), some (kq_R j 8), some (kq_I (nI m)), some (kq_I (nI i)), o, o'] [] μ1 Q := by
            refine ks_K_lays_106 <| ks_K_lays_107 ?_
            exact k μ1 (ha.hall a1 (kK_fr1 f1)) (kK_frP (kK_fr1 f1))
          refine ks_K_lays_38 <| ks_K_lays_40 <| ks_K_lays_41 (by first | rfl | assumption) <| ks_K_lays_44 (fun h44 => ?_) (fun h44 => ?_)
          · exact out
          · refine ks_K_lays_47 <| ks_K_lays_49 <| ks_K_lays_50 <| ks_K_lays_53 (by first | rfl | assumption) <| ks_K_lays_56 (fun h56 => ?_) (fun h56 => ?_)
            · exact out
            · rw [hl1, ki_le, nI_toInt (by omega), nI_toInt (by omega)] at h44
              rw [a1.c, hc, ki_le, nI_toInt (by omega), nI_toInt (by omega)] at h56
              omega
        | succ q ih =>
          intro i m v1 μ1 o o' hi hc a1 f1 hg
          have hl1 : kq_rI μ1 j 8 1 = nI (kz_L z j) := (f1.1 j 8 1 (fun q => absurd q.2.2 (by decide))).trans (ha.L j hj)
          have hn1 : kq_rL μ1 j 9 i = kz_N z j i := (f1.2.1 j 9 i (fun q => absurd q.2.2 (by decide))).trans (ha.N j hj i (by omega))
          refine ks_K_lays_38 <| ks_K_lays_40 <| ks_K_lays_41 (by first | rfl | assumption) <| ks_K_lays_44 (fun h44 => ?_) (fun h44 => ?_)
          · rw [hl1, ki_le, nI_toInt (by omega), nI_toInt (by omega)] at h44
            omega
          · refine ks_K_lays_47 <| ks_K_lays_49 <| ks_K_lays_50 <| ks_K_lays_53 (by first | rfl | assumption) <| ks_K_lays_56 (fun h56 => ?_) (fun h56 => ?_)
            · rw [a1.c, hc, ki_le, nI_toInt (by omega), nI_toInt (by omega)] at h56
              omega
            · refine ks_K_lays_59 <| ks_K_lays_60 (by first | rfl | assumption) <| ks_K_lays_63 <| ks_K_lays_65n (by first | rfl | assumption) (by omega) <| ks_K_lays_66 rfl <| ks_K_lays_68 <| ks_K_lays_70 <| ks_K_lays_71 <| ks_K_lays_72 (fun h72 => ?_) (fun h72 => ?_)
              · rw [hn1, lc_lt] at h72
                refine ks_K_lays_100n rfl <| ks_K_lays_103 ?_
                refine ih (i + 1) m v1 μ1 _ _ (by omega) hc a1 f1 ?_
                rw [← hg]
                show _ = if _ then _ else _
                rw [if_neg (fun q => by have := q.1; rw [Int64.le_iff_toInt_le] at this; rw [Int64.lt_iff_toInt_lt] at h72; omega)]
              · rw [hn1, lc_lt] at h72
                refine ks_K_lays_75 <| ks_K_lays_77 <| ks_K_lays_80 <| ks_K_lays_81 (fun h81 => ?_) (fun h81 => ?_)
                · rw [hn1, lc_gt] at h81
                  refine ks_K_lays_100n rfl <| ks_K_lays_103 ?_
                  refine ih (i + 1) m v1 μ1 _ _ (by omega) hc a1 f1 ?_
                  rw [← hg]
                  show _ = if _ then _ else _
                  rw [if_neg (fun q => by have := q.2; rw [Int64.le_iff_toInt_le] at this; rw [Int64.lt_iff_toInt_lt] at h81; omega)]
                · rw [hn1, lc_gt] at h81
                  refine ks_K_lays_84 <| ks_K_lays_85 <| ks_K_lays_88 (by first | rfl | assumption) <| ks_K_lays_91 <| ks_K_lays_93 <| ks_K_lays_95 <| ks_K_lays_96n (by first | rfl | assumption) (by omega) <| ks_K_lays_97n rfl <| ks_K_lays_100n rfl <| ks_K_lays_103 ?_
                  rw [hn1]
                  refine ih (i + 1) (m + 1) (kh_setu v1 i (kz_N z j i).toInt32) _ _ _ (by omega) hc a1.wu (f1.wI ⟨rfl, by decide, by decide⟩) ?_
                  rw [← hg]
                  show _ = if _ then _ else _
                  rw [if_pos ⟨by rw [Int64.le_iff_toInt_le]; rw [Int64.lt_iff_toInt_lt] at h72; omega, by rw [Int64.le_iff_toInt_le]; rw [Int64.lt_iff_toInt_lt] at h81; omega⟩]
      refine ks_K_lays_33 <| ks_K_lays_34 rfl <| ks_K_lays_35 <| ks_K_lays_36 rfl ?_
      exact loop _ 0 0 (kz_h z) μ none none (by omega) rfl ha.h kq_fr.rf rfl
    · have h := of_decide_eq_true (kq_b_t h24)
      rw [ha.B j hj] at h
      rw [if_pos h] at e0
      rw [e0] at k
      refine ks_K_lays_27 <| ks_K_lays_28 <| ks_K_lays_29 (Nat.le_of_ble_eq_true rfl) ?_
      refine kt_K_fin 5 ha (by decide) (fun μ' a1 f1 => ?_)
      refine ks_K_lays_32 ?_
      exact k μ' a1 f1
  · rw [show sp_lays z s = kz_F z 0 from if_pos (of_decide_eq_false (kq_b_f h4))] at k
    refine ks_K_lays_7 <| ks_K_lays_8 <| ks_K_lays_9 (Nat.le_of_ble_eq_true rfl) ?_
    refine kt_K_fin 0 ha (by decide) (fun μ' a1 f1 => ?_)
    refine ks_K_lays_12 ?_
    exact k μ' a1 f1
theorem ko_K_book (hz : kz_ok z) : kK_ct km_K_book [kq_I s] z (sp_book z s).2 (kq_I (sp_book z s).1) := by
  intro μ Q ha k
  have hv := hz.1.1
  have hm0 := hz.1.2
  refine ke_K_book ?_
  refine ks_K_book_0 <| ks_K_book_1 (Nat.le_of_ble_eq_true rfl) ?_
  refine kt_K_isSheet ?_
  refine ks_K_book_4 (fun h4 => ?_) (fun h4 => ?_)
  · have hs := of_decide_eq_true (kq_b_t h4)
    have e0 : sp_book z s = _ := if_neg (fun q => q hs)
    obtain ⟨j, hj, rfl⟩ := kh_ix (c := 4) (by decide) hs
    rw [kh_nat_nI (show j < 2 ^ 31 by omega)] at e0
    have hb4 := kb4 hj
    have hL := hz.2.2.2.2 j hj
    refine ks_K_book_13 <| ks_K_book_14 <| ks_K_book_17 <| ks_K_book_18n (by omega) <| ks_K_book_19 rfl rfl <| ks_K_book_20 <| ks_K_book_21 (by first | rfl | assumption) (Nat.le_of_ble_eq_true rfl) ?_
    refine kt_S_isMissing hb4 ?_
    refine ks_K_book_24 (fun h24 => ?_) (fun h24 => ?_)
    · have h := of_decide_eq_false (kq_b_f h24)
      rw [ha.B j hj] at h
      rw [if_neg h] at e0
      rw [e0] at k
      clear e0
      have loop : ∀ (q i : Nat) (μ1 : kq_M), i + q = kz_L z j → kc_at μ1 2 (kh_pass i (kz_h z)) → kq_fr (fun a b => (a = j ∧ b = 9) ∨ kc_P 2 a b) μ μ1 → (∀ y, y < 40 → kq_rL μ1 j 9 y = if y < i then (kh_H (kh_pass y (kz_h z))).toInt64 else kz_N z j y) → kq_S km_K_book 11 46 [some (kq_R 0 0), some (kq_I (nI j)), some (kq_R j 8), some (kq_I (nI i))] [] μ1 Q := by
        intro q
        induction q with
        | zero =>
          intro i μ1 hi a1 f1 hy1
          have hl1 : kq_rI μ1 j 8 1 = nI (kz_L z j) := (f1.1 j 8 1 (fun q => by rcases q with e | e; exact absurd e.2 (by decide); exact absurd e.2.2 (by decide))).trans (ha.L j hj)
          refine ks_K_book_46 <| ks_K_book_47 <| ks_K_book_48 (by first | rfl | assumption) <| ks_K_book_51 (fun h51 => ?_) (fun h51 => ?_)
          · refine ks_K_book_82 <| ks_K_book_83 (by first | rfl | assumption) <| ks_K_book_86 ?_
            rw [hl1]
            have f2 : kq_fr kK_PS μ μ1 := f1.mono (fun x y q => by rcases q with e | e; exact Or.inr (Or.inl e.2); exact Or.inr (Or.inr e))
            refine k μ1 (ha.sheets f2 (fun x hx => ?_) (fun x hx => ?_) (fun x hx y hy => ?_)) (kK_frS f2)
            · rw [f1.1 x 8 0 (fun q => by rcases q with e | e; exact absurd e.2 (by decide); exact absurd e.2.2 (by decide))]; exact ha.B x hx
            · rw [f1.1 x 8 1 (fun q => by rcases q with e | e; exact absurd e.2 (by decide); exact absurd e.2.2 (by decide))]; exact ha.L x hx
            · unfold va_up
              by_cases e : x = j
              · rw [if_pos e, e, hy1 y hy, show i = kz_L z j by omega]
              · rw [if_neg e, f1.2.1 x 9 y (fun q => by rcases q with e' | e'; exact e e'.1; exact absurd e'.2.2 (by decide))]; exact ha.N x hx y hy
          · rw [hl1] at h51
            exact absurd (nI_le (show kz_L z j ≤ i by omega) (by omega)) h51
        | succ q ih =>
          intro i μ1 hi a1 f1 hy1
          have hl1 : kq_rI μ1 j 8 1 = nI (kz_L z j) := (f1.1 j 8 1 (fun q => by rcases q with e | e; exact absurd e.2 (by decide); exact absurd e.2.2 (by decide))).trans (ha.L j hj)
          refine ks_K_book_46 <| ks_K_book_47 <| ks_K_book_48 (by first | rfl | assumption) <| ks_K_book_51 (fun h51 => ?_) (fun h51 => ?_)
          · rw [hl1] at h51
            exact absurd h51 (nI_ge (show i < kz_L z j by omega) (by omega))
          · refine ks_K_book_54 <| ks_K_book_55 (by first | rfl | assumption) <| ks_K_book_58 <| ks_K_book_59 <| ks_K_book_60 <| ks_K_book_63 (by first | rfl | assumption) <| ks_K_book_66 <| ks_K_book_67n (by first | rfl | assumption) (by omega) <| ks_K_book_68 <| ks_K_book_69 <| ks_K_book_72 (by first | rfl | assumption) (Nat.le_of_ble_eq_true rfl) ?_
            rw [a1.H]
            have a2 : kc_at (kq_wL μ1 j 9 i (kh_H (kh_pass i (kz_h z))).toInt64) 2 (kh_pass i (kz_h z)) := a1
            refine kt_H_passMinute rfl a2 (kh_pass_ok _ _ hv (by omega)) (fun μ2 a3 f3 => ?_)
            refine ks_K_book_75 rfl <| ks_K_book_76n rfl <| ks_K_book_79 ?_
            rw [← kh_pass_s] at a3
            refine ih (i + 1) μ2 (by omega) a3 ((f1.wL (Or.inl ⟨rfl, rfl⟩)).tr (f3.mono (fun _ _ q => Or.inr q))) (fun y hy => ?_)
            rw [f3.2.1 j 9 y (fun q => absurd q.2.2 (by decide)), kq_rL_wL]
            by_cases e : y = i
            · rw [if_pos ⟨rfl, rfl, e⟩, if_pos (by omega), e]
            · rw [if_neg (fun t => e t.2.2), hy1 y hy]
              by_cases e2 : y < i
              · rw [if_pos e2, if_pos (by omega)]
              · rw [if_neg e2, if_neg (by omega)]
      refine ks_K_book_33 <| ks_K_book_34 <| ks_K_book_37 <| ks_K_book_38 <| ks_K_book_41 (by first | rfl | assumption) (Nat.le_of_ble_eq_true rfl) ?_
      refine kt_H_become rfl rfl (by decide) ha.h hv (fun μ1 a1 f1 => ?_)
      refine ks_K_book_44 <| ks_K_book_45 rfl ?_
      refine loop (kz_L z j) 0 μ1 (by omega) a1 (f1.mono (fun _ _ q => Or.inr q)) (fun y hy => ?_)
      rw [if_neg (by omega), f1.2.1 j 9 y (fun q => absurd q.2.2 (by decide))]
      exact ha.N j hj y hy
    · have h := of_decide_eq_true (kq_b_t h24)
      rw [ha.B j hj] at h
      rw [if_pos h] at e0
      rw [e0] at k
      refine ks_K_book_27 <| ks_K_book_28 <| ks_K_book_29 (Nat.le_of_ble_eq_true rfl) ?_
      refine kt_K_fin 5 ha (by decide) (fun μ' a1 f1 => ?_)
      refine ks_K_book_32 ?_
      exact k μ' a1 f1
  · rw [show sp_book z s = kz_F z 0 from if_pos (of_decide_eq_false (kq_b_f h4))] at k
    refine ks_K_book_7 <| ks_K_book_8 <| ks_K_book_9 (Nat.le_of_ble_eq_true rfl) ?_
    refine kt_K_fin 0 ha (by decide) (fun μ' a1 f1 => ?_)
    refine ks_K_book_12 ?_
    exact k μ' a1 f1
theorem kh_goes_cg {g g' : Nat → Int64} : ∀ (n i : Nat) (v : kh_S), (∀ j, i ≤ j → j < i + n → g j = g' j) → kh_goes g n i v = kh_goes g' n i v
  | 0, _, _, _ => rfl
  | n + 1, i, v, h => by
    show (decide ((kh_H v).toInt64 = g i) && kh_goes g n (i + 1) (kh_min v)) = (decide ((kh_H v).toInt64 = g' i) && kh_goes g' n (i + 1) (kh_min v))
    rw [h i (by omega) (by omega), kh_goes_cg n (i + 1) (kh_min v) (fun j h1 h2 => h j (by omega) (by omega))]
theorem kg_cnt_le (P : Nat → Bool) : ∀ n, kg_cnt P n ≤ n
  | 0 => Nat.le_refl _
  | n + 1 => by
    show kg_cnt P n + (if P n then 1 else 0) ≤ n + 1
    have := kg_cnt_le P n
    split <;> omega
theorem ko_K_read (hz : kz_ok z) : kK_ct km_K_read [kq_I s, kq_I w] z (sp_read z s w).2 (kq_I (sp_read z s w).1) := by
  intro μ Q ha k
  have hv := hz.1.1
  have hm0 := hz.1.2
  refine ke_K_read ?_
  refine ks_K_read_0 <| ks_K_read_1 (Nat.le_of_ble_eq_true rfl) ?_
  refine kt_K_isSheet ?_
  refine ks_K_read_4 (fun h4 => ?_) (fun h4 => ?_)
  · have hs := of_decide_eq_true (kq_b_t h4)
    have e0 : sp_read z s w = _ := if_neg (fun q => q hs)
    obtain ⟨j, hj, rfl⟩ := kh_ix (c := 4) (by decide) hs
    rw [kh_nat_nI (show j < 2 ^ 31 by omega)] at e0
    have hb4 := kb4 hj
    have hL := hz.2.2.2.2 j hj
    refine ks_K_read_13 <| ks_K_read_14 <| ks_K_read_17 <| ks_K_read_18n (by omega) <| ks_K_read_19 rfl rfl <| ks_K_read_20 <| ks_K_read_21 (by first | rfl | assumption) (Nat.le_of_ble_eq_true rfl) ?_
    refine kt_S_isMissing hb4 ?_
    refine ks_K_read_24 (fun h24 => ?_) (fun h24 => ?_)
    · have h := of_decide_eq_false (kq_b_f h24)
      rw [ha.B j hj] at h
      rw [if_neg h] at e0
      refine ks_K_read_33 <| ks_K_read_34 <| ks_K_read_35 (Nat.le_of_ble_eq_true rfl) ?_
      refine kt_K_isWitness ha hv ?_
      refine ks_K_read_38 (fun h38 => ?_) (fun h38 => ?_)
      · have hw := kq_b_t h38
        rw [if_neg (by rw [hw]; decide)] at e0
        obtain ⟨x, hx, rfl⟩ := kh_wi_ix hv hw
        have hc8 := hv.1
        rw [kh_nat_nI (show x < 2 ^ 31 by omega)] at e0
        refine ks_K_read_47 <| ks_K_read_48 (by first | rfl | assumption) <| ks_K_read_51 <| ks_K_read_53 (fun h53 => ?_) (fun h53 => ?_)
        · rw [ha.L j hj, ki_le, nI_toInt (by omega)] at h53
          have hL12 : kz_L z j ≤ 12 := by
            have : (12 : Int32).toInt = 12 := by decide
            omega
          rw [if_neg (by omega)] at e0
          rw [e0] at k
          clear e0
          generalize hP : (fun q => kh_goes (kz_N z j) (kz_L z j) 0 (kh_setn (kh_setk (kz_h z) x (nI (q / 256))) x (nI (q % 256)))) = P at k
          have inner : ∀ (kk : Nat), kk < 6 → (∀ (μ1 : kq_M) (o : Option kq_V), kq_fr (kc_P 2) μ μ1 → kq_S km_K_read 11 69 [some (kq_R 0 0), some (kq_I (nI j)), some (kq_I (nI x)), some (kq_R j 8), some (kq_I (nI (kg_cnt P (256 * (kk + 1))))), some (kq_I (nI (kk + 1))), o] [] μ1 Q) → ∀ (q i : Nat) (μ1 : kq_M), i + q = 256 → kq_fr (kc_P 2) μ μ1 → kq_S km_K_read 11 79 [some (kq_R 0 0), some (kq_I (nI j)), some (kq_I (nI x)), some (kq_R j 8), some (kq_I (nI (kg_cnt P (256 * kk + i)))), some (kq_I (nI kk)), some (kq_I (nI i))] [] μ1 Q := by
            intro kk hkk next q
            induction q with
            | zero =>
              intro i μ1 hi f1
              refine ks_K_read_79 <| ks_K_read_81 <| ks_K_read_84 (fun h84 => ?_) (fun h84 => ?_)
              · refine ks_K_read_140n rfl <| ks_K_read_143 ?_
                rw [show 256 * kk + i = 256 * (kk + 1) by omega]
                exact next μ1 _ f1
              · rw [ki_lt, ki_255, nI_toInt (by omega)] at h84
                omega
            | succ q ih =>
              intro i μ1 hi f1
              refine ks_K_read_79 <| ks_K_read_81 <| ks_K_read_84 (fun h84 => ?_) (fun h84 => ?_)
              · rw [ki_lt, ki_255, nI_toInt (by omega)] at h84
                omega
              · have hh : kc_at μ1 1 (kz_h z) := ha.h.fr f1 (fun b _ _ q => by cases q.1)
                refine ks_K_read_87 <| ks_K_read_88 <| ks_K_read_91 <| ks_K_read_92 <| ks_K_read_95 (by first | rfl | assumption) (Nat.le_of_ble_eq_true rfl) ?_
                refine kt_H_become rfl rfl (by decide) hh hv (fun μ2 a2 f2 => ?_)
                refine ks_K_read_98 <| ks_K_read_99 <| ks_K_read_102 (by first | rfl | assumption) <| ks_K_read_105 <| ks_K_read_106 <| ks_K_read_108n (by first | rfl | assumption) (by omega) <| ks_K_read_109 <| ks_K_read_110 <| ks_K_read_113 (by first | rfl | assumption) <| ks_K_read_116 <| ks_K_read_117 <| ks_K_read_119n (by first | rfl | assumption) (by omega) <| ks_K_read_120 <| ks_K_read_121 <| ks_K_read_124 <| ks_K_read_125 (by first | rfl | assumption) (Nat.le_of_ble_eq_true rfl) ?_
                have a3 := (a2.wk (x := nI kk) (w := x)).wn (x := nI i) (w := x)
                have f3 : kq_fr (kc_P 2) μ (kq_wI (kq_wI μ2 2 2 x (nI kk)) 2 3 x (nI i)) := ((f1.tr f2).wI ⟨rfl, by decide, by decide⟩).wI ⟨rfl, by decide, by decide⟩
                have o3 : kh_ok (kh_setn (kh_setk (kz_h z) x (nI kk)) x (nI i)) := kh_setn_ok (kh_setk_ok hv (kh_in_of 5 (by omega) (by decide) (by decide))) (kh_in_of 255 (by omega) (by decide) (by decide))
                refine kt_H_goesBy rfl hb4 a3 o3 hL ((f3.1 j 8 1 (fun q => absurd q.2.2 (by decide))).trans (ha.L j hj)) (by show kh_m (kz_h z) + _ < _; omega) (fun μ4 f4 => ?_)
                have eP : kh_goes (kq_rL (kq_wI (kq_wI μ2 2 2 x (nI kk)) 2 3 x (nI i)) j 9) (kz_L z j) 0 (kh_setn (kh_setk (kz_h z) x (nI kk)) x (nI i)) = P (256 * kk + i) := by
                  rw [← hP]
                  dsimp only
                  rw [show (256 * kk + i) / 256 = kk by omega, show (256 * kk + i) % 256 = i by omega]
                  exact kh_goes_cg _ _ _ (fun y _ hy => (f3.2.1 j 9 y (fun q => absurd q.2.2 (by decide))).trans (ha.N j hj y (by omega)))
                rw [eP]
                have e1 : kg_cnt P (256 * kk + (i + 1)) = kg_cnt P (256 * kk + i) + (if P (256 * kk + i) then 1 else 0) := rfl
                refine ks_K_read_128 (fun h128 => ?_) (fun h128 => ?_)
                · rw [kq_b_f h128, if_neg (by decide)] at e1
                  refine ks_K_read_134n rfl <| ks_K_read_137 ?_
                  have g := ih (i + 1) μ4 (by omega) (f3.tr f4)
                  rw [e1] at g
                  exact g
                · rw [kq_b_t h128, if_pos rfl] at e1
                  refine ks_K_read_131n rfl <| ks_K_read_134n rfl <| ks_K_read_137 ?_
                  have g := ih (i + 1) μ4 (by omega) (f3.tr f4)
                  rw [e1] at g
                  exact g
          have outer : ∀ (q kk : Nat) (μ1 : kq_M) (o : Option kq_V), kk + q = 6 → kq_fr (kc_P 2) μ μ1 → kq_S km_K_read 11 69 [some (kq_R 0 0), some (kq_I (nI j)), some (kq_I (nI x)), some (kq_R j 8), some (kq_I (nI (kg_cnt P (256 * kk)))), some (kq_I (nI kk)), o] [] μ1 Q := by
            intro q
            induction q with
            | zero =>
              intro kk μ1 o hk f1
              refine ks_K_read_69 <| ks_K_read_71 <| ks_K_read_73 (fun h73 => ?_) (fun h73 => ?_)
              · refine ks_K_read_146 <| ks_K_read_148 ?_
                rw [show kk = 6 by omega]
                exact k μ1 (ha.trial f1) (kK_frP (kK_fr2 f1))
              · rw [ki_le, ki_6, nI_toInt (by omega)] at h73
                omega
            | succ q ih =>
              intro kk μ1 o hk f1
              refine ks_K_read_69 <| ks_K_read_71 <| ks_K_read_73 (fun h73 => ?_) (fun h73 => ?_)
              · rw [ki_le, ki_6, nI_toInt (by omega)] at h73
                omega
              · refine ks_K_read_76 <| ks_K_read_77 rfl ?_
                exact inner kk (by omega) (fun μ2 o2 f2 => ih (kk + 1) μ2 o2 (by omega) f2) 256 0 μ1 rfl f1
          refine ks_K_read_63 <| ks_K_read_64 rfl <| ks_K_read_66 <| ks_K_read_67 rfl ?_
          exact outer 6 0 μ none rfl kq_fr.rf
        · rw [ha.L j hj, ki_le, nI_toInt (by omega)] at h53
          have hL12 : 12 < kz_L z j := by
            have : (12 : Int32).toInt = 12 := by decide
            omega
          rw [if_pos hL12] at e0
          rw [e0] at k
          refine ks_K_read_56 <| ks_K_read_57 <| ks_K_read_59 (Nat.le_of_ble_eq_true rfl) ?_
          refine kt_K_fin 6 ha (by decide) (fun μ' a1 f1 => ?_)
          refine ks_K_read_62 ?_
          exact k μ' a1 f1
      · rw [if_pos (kq_b_f h38)] at e0
        rw [e0] at k
        refine ks_K_read_41 <| ks_K_read_42 <| ks_K_read_43 (Nat.le_of_ble_eq_true rfl) ?_
        refine kt_K_fin 0 ha (by decide) (fun μ' a1 f1 => ?_)
        refine ks_K_read_46 ?_
        exact k μ' a1 f1
    · have h := of_decide_eq_true (kq_b_t h24)
      rw [ha.B j hj] at h
      rw [if_pos h] at e0
      rw [e0] at k
      refine ks_K_read_27 <| ks_K_read_28 <| ks_K_read_29 (Nat.le_of_ble_eq_true rfl) ?_
      refine kt_K_fin 5 ha (by decide) (fun μ' a1 f1 => ?_)
      refine ks_K_read_32 ?_
      exact k μ' a1 f1
  · rw [show sp_read z s w = kz_F z 0 from if_pos (of_decide_eq_false (kq_b_f h4))] at k
    refine ks_K_read_7 <| ks_K_read_8 <| ks_K_read_9 (Nat.le_of_ble_eq_true rfl) ?_
    refine kt_K_fin 0 ha (by decide) (fun μ' a1 f1 => ?_)
    refine ks_K_read_12 ?_
    exact k μ' a1 f1
end KO6
