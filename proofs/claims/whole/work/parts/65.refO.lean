/-! THE REFERENCE: its calls (12): book, read -/
def kM_b : Nat → Nat → Prop := fun a b => a = 0 ∧ (b = 20 ∨ b = 21 ∨ b = 23 ∨ b = 28)
section KM15
variable {z : kz_S} {w a x n s f b i : Int32}
theorem ko_M_book (hz : kz_ok z) : kM_ct km_M_book [kq_I s] z (sp_book z s).2 (kq_I (sp_book z s).1) := by
  intro μ Q ha k
  have hv := hz.1.1
  have hc8 := hv.1
  have hm := hz.1.2
  refine ke_M_book ?_
  refine ks_M_book_0 <| ks_M_book_1 <| ks_M_book_2 (Nat.le_of_ble_eq_true rfl) ?_
  refine kt_M_badSheet ha ?_
  by_cases hs : 0 ≤ s ∧ s < 4
  · rw [if_neg (fun q => q hs)]
    have e0 : sp_book z s = _ := if_neg (fun q => q hs)
    obtain ⟨j, hj, rfl⟩ := kh_ix (c := 4) (by decide) hs
    rw [kh_nat_nI (show j < 2 ^ 31 by omega)] at e0 ⊢
    have hL := hz.2.2.2.2 j hj
    by_cases hB : kz_B z j = 0
    · rw [if_pos hB] at e0 ⊢
      rw [e0] at k
      refine ks_M_book_5 rfl <| ks_M_book_6 <| ks_M_book_7 (fun h7 => ?_) (fun h7 => ?_)
      · exact absurd h7 (by decide)
      · refine ks_M_book_10 <| ks_M_book_11 <| ks_M_book_12 (Nat.le_of_ble_eq_true rfl) ?_
        refine kt_M_fin 5 ha (by decide) rfl (fun μ' a1 f1 => ?_)
        refine ks_M_book_15 ?_
        exact k μ' a1 f1
    · rw [if_neg hB] at e0 ⊢
      rw [e0] at k
      clear e0
      have o : ∀ c, c ≠ 20 → c ≠ 21 → c ≠ 23 → c ≠ 28 → ¬ kM_b 0 c := fun c h1 h2 h3 h4 q => by have := q.2; omega
      have loop : ∀ (q i : Nat) (μ1 : kq_M), i + q = kz_L z j → kr_at μ1 21 (kh_pass i (kz_h z)) → kr_at μ1 23 (kz_h z) → kq_fr kM_b μ μ1 → kq_rI μ1 0 20 6 = kq_rI μ 0 20 6 → kq_rI μ1 0 20 19 = kq_rI μ 0 20 19 → (∀ y, kq_rL μ1 0 28 y = if 40 * j ≤ y ∧ y < 40 * j + i then (kh_H (kh_pass (y - 40 * j) (kz_h z))).toInt64 else kq_rL μ 0 28 y) → kq_S km_M_book 11 27 [some (kq_R 0 20), some (kq_I (nI j)), some (kq_I 0), some (kq_I (nI i))] [] μ1 Q := by
        intro q
        induction q with
        | zero =>
          intro i μ1 hi a1 t1 f1 g6 g19 e4
          have hl1 : kq_rI μ1 0 27 j = nI (kz_L z j) := (f1.1 _ _ _ (o 27 (by decide) (by decide) (by decide) (by decide))).trans (ha.L j hj)
          refine ks_M_book_27 <| ks_M_book_28 <| ks_M_book_29 <| ks_M_book_32 <| ks_M_book_33n (by omega) <| ks_M_book_34 (fun h34 => ?_) (fun h34 => ?_)
          · refine ks_M_book_65 <| ks_M_book_66 <| ks_M_book_67 <| ks_M_book_68 <| ks_M_book_71 (Nat.le_of_ble_eq_true rfl) ?_
            refine kt_M_bk t1 hc8 (fun μ2 a2 t2 f2 => ?_)
            have f3 := f2.1
            have n1 : ∀ c, c ≠ 20 → c ≠ 21 → c ≠ 23 → c ≠ 24 → c ≠ 29 → c ≠ 31 → ¬ ((0 : Nat) = 0 ∧ (c = 20 ∨ c = 21 ∨ c = 23 ∨ c = 24 ∨ c = 29 ∨ c = 31)) := fun c h1 h2 h3 h4 h5 h6 q => by omega
            have rd : ∀ c y, c ≠ 20 → c ≠ 21 → c ≠ 23 → c ≠ 28 → c ≠ 24 → c ≠ 29 → c ≠ 31 → kq_rI μ2 0 c y = kq_rI μ 0 c y := fun c y h1 h2 h3 h4 h5 h6 h7 => (f3.1 _ _ _ (n1 c h1 h2 h3 h5 h6 h7)).trans (f1.1 _ _ _ (o c h1 h2 h3 h4))
            have fP : kq_fr kM_P μ μ2 := (f1.mono (fun a b q => by have := q.2; show 20 ≤ b; omega)).tr f2.P
            refine ks_M_book_74 <| ks_M_book_75 <| ks_M_book_78 <| ks_M_book_79n (by omega) <| ks_M_book_80 ?_
            rw [show kq_rI μ2 0 27 j = nI (kz_L z j) from (rd 27 j (by decide) (by decide) (by decide) (by decide) (by decide) (by decide) (by decide)).trans (ha.L j hj)]
            refine k μ2 ⟨a2, (f2.2.2.trans g19).trans ha.b, fun hb => ?_, (f2.2.1.trans g6).trans ha.n, fun y hy => ?_, fun y hy => ?_, fun y hy => ?_, fun y hy u hu => ?_, fun y hy => ?_⟩ fP
            · exact ((ha.k hb).fr f1 (o 30 (by decide) (by decide) (by decide) (by decide))).fr f3 (n1 30 (by decide) (by decide) (by decide) (by decide) (by decide) (by decide))
            · rw [rd 25 y (by decide) (by decide) (by decide) (by decide) (by decide) (by decide) (by decide)]; exact ha.t y hy
            · rw [rd 26 y (by decide) (by decide) (by decide) (by decide) (by decide) (by decide) (by decide)]; exact ha.B y hy
            · rw [rd 27 y (by decide) (by decide) (by decide) (by decide) (by decide) (by decide) (by decide)]; exact ha.L y hy
            · rw [f3.2.1 _ _ _ (n1 28 (by decide) (by decide) (by decide) (by decide) (by decide) (by decide)), e4]
              show _ = va_up (kz_N z) j _ y u
              unfold va_up
              by_cases e : y = j
              · rw [if_pos e, e]
                by_cases eu : u < kz_L z j
                · rw [if_pos eu, if_pos (by omega), show 40 * j + u - 40 * j = u by omega]
                · rw [if_neg eu, if_neg (by omega)]
                  exact ha.N j hj u hu
              · rw [if_neg e, if_neg (by omega)]
                exact ha.N y hy u hu
            · rw [rd 22 y (by decide) (by decide) (by decide) (by decide) (by decide) (by decide) (by decide)]; exact ha.f y hy
          · rw [hl1] at h34
            exact absurd (nI_le (show kz_L z j ≤ i by omega) (by omega)) h34
        | succ q ih =>
          intro i μ1 hi a1 t1 f1 g6 g19 e4
          have hl1 : kq_rI μ1 0 27 j = nI (kz_L z j) := (f1.1 _ _ _ (o 27 (by decide) (by decide) (by decide) (by decide))).trans (ha.L j hj)
          refine ks_M_book_27 <| ks_M_book_28 <| ks_M_book_29 <| ks_M_book_32 <| ks_M_book_33n (by omega) <| ks_M_book_34 (fun h34 => ?_) (fun h34 => ?_)
          · rw [hl1] at h34
            exact absurd h34 (nI_ge (show i < kz_L z j by omega) (by omega))
          · refine ks_M_book_37 <| ks_M_book_38 <| ks_M_book_41 <| ks_M_book_43 <| ks_M_book_44 <| ks_M_book_45 <| ks_M_book_46 <| ks_M_book_47 <| ks_M_book_48 <| ks_M_book_51 <| ks_M_book_52 <| ks_M_book_53 <| ks_M_book_54 (40 * j + i) km_40 (by omega) <| ks_M_book_55 <| ks_M_book_56 (Nat.le_of_ble_eq_true rfl) ?_
            rw [a1.H]
            have fw : kq_fr kM_b μ (kq_wL μ1 0 28 (40 * j + i) (kh_H (kh_pass i (kz_h z))).toInt64) := f1.wL ⟨rfl, Or.inr (Or.inr (Or.inr rfl))⟩
            have a1' : kr_at (kq_wL μ1 0 28 (40 * j + i) (kh_H (kh_pass i (kz_h z))).toInt64) 21 (kh_pass i (kz_h z)) := a1
            have t1' : kr_at (kq_wL μ1 0 28 (40 * j + i) (kh_H (kh_pass i (kz_h z))).toInt64) 23 (kz_h z) := t1
            refine kt_M_oneMinute a1' (kh_pass_ok i _ hv (by omega)) (fun μ2 a2 f2 _ => ?_)
            refine ks_M_book_59n rfl <| ks_M_book_62 ?_
            rw [← kh_pass_s] at a2
            refine ih (i + 1) μ2 (by omega) a2 (f2.t t1') (fw.tr (f2.1.mono (fun a b q => ⟨q.1, q.2.elim Or.inl (fun e => Or.inr (Or.inl e))⟩))) ((f2.2 6 (by decide)).trans g6) ((f2.2 19 (by decide)).trans g19) (fun y => ?_)
            rw [f2.1.2.1 _ _ _ (fun q => by rcases q.2 with e | e <;> cases e)]
            by_cases ey : y = 40 * j + i
            · rw [ey, kw_ws, if_pos (by omega), show 40 * j + i - 40 * j = i by omega]
            · rw [kw_wr ey, e4 y]
              by_cases e5 : 40 * j ≤ y ∧ y < 40 * j + i
              · rw [if_pos e5, if_pos (by omega)]
              · rw [if_neg e5, if_neg (by omega)]
      refine ks_M_book_5 rfl <| ks_M_book_6 <| ks_M_book_7 (fun h7 => ?_) (fun h7 => ?_)
      · refine ks_M_book_16 <| ks_M_book_17 <| ks_M_book_18 <| ks_M_book_19 <| ks_M_book_22 (Nat.le_of_ble_eq_true rfl) ?_
        refine kt_M_keep (i := 23) rfl rfl rfl rfl (by decide) (fun μ1 e1 f1 => ?_)
        refine ks_M_book_25 <| ks_M_book_26 rfl ?_
        refine loop (kz_L z j) 0 μ1 (by omega) (ha.h.fr f1 (fun q => by cases q.2)) (ha.h.cp hc8 e1) (f1.mono (fun a b q => ⟨q.1, Or.inr (Or.inr (Or.inl q.2))⟩)) (f1.1 _ _ _ (fun q => by cases q.2)) (f1.1 _ _ _ (fun q => by cases q.2)) (fun y => ?_)
        rw [if_neg (by omega)]
        exact f1.2.1 _ _ _ (fun q => by cases q.2)
      · exact absurd rfl h7
  · rw [if_pos hs]
    rw [show sp_book z s = kz_F z 0 from if_pos hs] at k
    refine ks_M_book_5 rfl <| ks_M_book_6 <| ks_M_book_7 (fun h7 => ?_) (fun h7 => ?_)
    · exact absurd h7 (by decide)
    · refine ks_M_book_10 <| ks_M_book_11 <| ks_M_book_12 (Nat.le_of_ble_eq_true rfl) ?_
      refine kt_M_fin 0 ha (by decide) rfl (fun μ' a1 f1 => ?_)
      refine ks_M_book_15 ?_
      exact k μ' a1 f1
end KM15
