/-! THE CLASS's CLERK: a whole text -/
section KT11
variable {d n p : Nat} {t : Nat → Int32} {v : kh_S} {T : tk_T} {μ : kq_M} {Q : Option kq_V → kq_M → Prop}
theorem kt_C_takeItem (hT : kC_tp t n) (hi : kC_in t n μ) (hc : kC_T μ T) (hf : tk_fr t n p T) (ha : kc_at μ 2 v) (hv : kh_ok v) (k : ∀ μ', kC_res t n μ μ' (tk_item t n v T) → Q (some (kq_I (kq_b (tk_item t n v T).1))) μ') : kq_Call (d + 6) km_C_takeItem [kq_R 0 6, kq_R 2 1] μ Q := by
  have hn := hT.1
  have ae := hf.ae
  have hae : tk_a T ≤ tk_e T ∧ tk_e T ≤ n ∧ tk_o T ≤ 4 := ⟨ae.2.1, ae.2.2.1, ae.2.2.2.2⟩
  refine ke_C_takeItem ?_
  refine ks_C_takeItem_0 <| ks_C_takeItem_1 (Nat.le_of_ble_eq_true rfl) ?_
  refine kt_C_kindNamed hn hi hc hae ?_
  refine ks_C_takeItem_4 rfl <| ks_C_takeItem_5 <| ks_C_takeItem_6 (fun h6 => ?_) (fun h6 => ?_)
  · have eA : tk_item t n v T = _ := if_neg (show ¬ 0 ≤ tk_kind t T by rw [ki_lt] at h6; rw [ki_le]; omega)
    refine ks_C_takeItem_16 <| ks_C_takeItem_17 <| ks_C_takeItem_19 (Nat.le_of_ble_eq_true rfl) ?_
    refine kt_C_isWord (r := 9) (by decide) hn hi hc hae ?_
    refine ks_C_takeItem_22 (fun h22 => ?_) (fun h22 => ?_)
    · rw [if_neg (by rw [kq_b_f h22]; decide)] at eA
      refine ks_C_takeItem_32 <| ks_C_takeItem_33 <| ks_C_takeItem_35 (Nat.le_of_ble_eq_true rfl) ?_
      refine kt_C_isWord (r := 10) (by decide) hn hi hc hae ?_
      refine ks_C_takeItem_38 (fun h38 => ?_) (fun h38 => ?_)
      · rw [if_neg (by rw [kq_b_f h38]; decide)] at eA
        refine ks_C_takeItem_48 <| ks_C_takeItem_49 <| ks_C_takeItem_51 (Nat.le_of_ble_eq_true rfl) ?_
        refine kt_C_isWord (r := 11) (by decide) hn hi hc hae ?_
        refine ks_C_takeItem_54 (fun h54 => ?_) (fun h54 => ?_)
        · rw [if_neg (by rw [kq_b_f h54]; decide)] at eA
          rw [eA] at k
          refine ks_C_takeItem_69 <| ks_C_takeItem_70 (by first | exact kq_b01' _ | exact Or.inl rfl | exact Or.inr rfl | assumption) ?_
          exact k μ ⟨hi, hc, fun q => absurd q (by show ¬ (false = true); decide), kq_fr.rf⟩
        · rw [if_pos (kq_b_t h54)] at eA
          rw [eA] at k
          refine ks_C_takeItem_57 <| ks_C_takeItem_58 <| ks_C_takeItem_59 (Nat.le_of_ble_eq_true rfl) ?_
          refine kt_C_takeWater hT hi hc hf ha (fun μ1 r1 => ?_)
          have g := k μ1 r1
          refine ks_C_takeItem_62 (fun h62 => ?_) (fun h62 => ?_)
          · rw [kq_b_f h62] at g
            refine ks_C_takeItem_69 <| ks_C_takeItem_70 (by first | exact kq_b01' _ | exact Or.inl rfl | exact Or.inr rfl | assumption) ?_
            exact g
          · rw [kq_b_t h62] at g
            refine ks_C_takeItem_65 <| ks_C_takeItem_66 <| ks_C_takeItem_70 (by first | exact kq_b01' _ | exact Or.inl rfl | exact Or.inr rfl | assumption) ?_
            exact g
      · rw [if_pos (kq_b_t h38)] at eA
        rw [eA] at k
        refine ks_C_takeItem_41 <| ks_C_takeItem_42 <| ks_C_takeItem_43 <| ks_C_takeItem_44 (Nat.le_of_ble_eq_true rfl) ?_
        refine kt_C_takeTruth (b := false) hT hi hc hf ha (fun μ1 r1 => ?_)
        refine ks_C_takeItem_47 (by first | exact kq_b01' _ | exact Or.inl rfl | exact Or.inr rfl | assumption) ?_
        exact k μ1 r1
    · rw [if_pos (kq_b_t h22)] at eA
      rw [eA] at k
      refine ks_C_takeItem_25 <| ks_C_takeItem_26 <| ks_C_takeItem_27 <| ks_C_takeItem_28 (Nat.le_of_ble_eq_true rfl) ?_
      refine kt_C_takeTruth (b := true) hT hi hc hf ha (fun μ1 r1 => ?_)
      refine ks_C_takeItem_31 (by first | exact kq_b01' _ | exact Or.inl rfl | exact Or.inr rfl | assumption) ?_
      exact k μ1 r1
  · have eA : tk_item t n v T = _ := if_pos (show 0 ≤ tk_kind t T by rw [ki_lt] at h6; rw [ki_le]; omega)
    rw [eA] at k
    refine ks_C_takeItem_9 <| ks_C_takeItem_10 <| ks_C_takeItem_11 <| ks_C_takeItem_12 (Nat.le_of_ble_eq_true rfl) ?_
    refine kt_C_takeWitness hT hi hc hf ha hv (fun μ1 r1 => ?_)
    refine ks_C_takeItem_15 (by first | exact kq_b01' _ | exact Or.inl rfl | exact Or.inr rfl | assumption) ?_
    exact k μ1 r1
theorem kt_C_takeDown (hT : kC_tp t n) (hi : kC_in t n μ) (ha : kc_at μ 2 v) (hv : kh_ok v) (k : ∀ μ', kq_fr kC_H μ μ' → (∀ v', (tk_all t n 121 0 v 0).2 = some v' → kc_at μ' 2 v') → Q (some (kq_I (tk_all t n 121 0 v 0).1)) μ') : kq_Call (d + 7) km_C_takeDown [kq_R 0 6, kq_R 2 1] μ Q := by
  have hn := hT.1
  generalize hR : tk_all t n 121 0 v 0 = R at k
  have loop : ∀ (q i : Nat) (v1 : kh_S) (p : Nat) (μ1 : kq_M), p ≤ n → n - p < q → 2 * i ≤ p → kh_ok v1 → kC_in t n μ1 → kc_at μ1 2 v1 → kq_rI μ1 0 6 2 = 3 → kq_rI μ1 0 6 4 = nI p → kq_fr kC_H μ μ1 → tk_all t n q i v1 p = R → kq_S km_C_takeDown (d + 7) 12 [some (kq_R 0 6), some (kq_R 2 1), some (kq_I (nI i))] [] μ1 Q := by
    intro q
    induction q with
    | zero => intro i v1 p μ1 hp hq; omega
    | succ q ih =>
      intro i v1 p μ1 hp hq h2i o1 i1 a1 ht he f1 e
      have hf : tk_fr t n p (tk_at t n p) := ⟨p, Nat.le_refl _, hp, rfl⟩
      have io := tk_item_ok hf o1
      unfold tk_all at e
      refine ks_C_takeDown_12 <| ks_C_takeDown_13 <| ks_C_takeDown_16 <| ks_C_takeDown_17 (fun h17 => ?_) (fun h17 => ?_)
      · exact absurd ht h17
      · refine ks_C_takeDown_20 <| ks_C_takeDown_21 <| ks_C_takeDown_23 (fun h23 => ?_) (fun h23 => ?_)
        · rw [ki_le, ki_120, nI_toInt (by omega)] at h23
          omega
        · refine ks_C_takeDown_26 <| ks_C_takeDown_27 (Nat.le_of_ble_eq_true rfl) ?_
          refine kt_C_nextToken hT i1 hp he (fun μ2 i2 c2 f2 _ => ?_)
          refine ks_C_takeDown_30 <| ks_C_takeDown_31 <| ks_C_takeDown_32 (Nat.le_of_ble_eq_true rfl) ?_
          refine kt_C_takeItem hT i2 c2 hf (kC_hall a1 f2) o1 (fun μ3 r3 => ?_)
          generalize tk_item t n v1 (tk_at t n p) = A at io e r3
          obtain ⟨i3, c3, a3, f3⟩ := r3
          have f4 := (f1.tr (kC_f6 f2)).tr f3
          have ae := io.2.1.ae
          refine ks_C_takeDown_35 (fun h35 => ?_) (fun h35 => ?_)
          · have hA := kq_b_t h35
            have ae2 := (io.1 hA).ae
            rw [if_neg (by rw [hA]; decide)] at e
            by_cases h3 : tk_o A.2.2 = 3
            · rw [if_pos h3] at e
              have := ae2.2.2.2.1 (by omega)
              refine ks_C_takeDown_45n rfl <| ks_C_takeDown_48 ?_
              refine ih (i + 1) A.2.1 (tk_e A.2.2) μ3 ae.2.2.1 (by omega) (by omega) io.2.2.1 i3 (a3 hA) (by rw [c3.1, h3]; rfl) c3.2.2.1 f4 e
            · rw [if_neg h3] at e
              refine ks_C_takeDown_45n rfl <| ks_C_takeDown_48 ?_
              refine ks_C_takeDown_12 <| ks_C_takeDown_13 <| ks_C_takeDown_16 <| ks_C_takeDown_17 (fun h17 => ?_) (fun h17 => ?_)
              · by_cases h0 : tk_o A.2.2 = 0
                · rw [if_pos h0] at e
                  rw [← e] at k
                  refine ks_C_takeDown_51 <| ks_C_takeDown_52 <| ks_C_takeDown_55 (fun h55 => ?_) (fun h55 => ?_)
                  · rw [c3.1, h0] at h55
                    exact absurd rfl h55
                  · refine ks_C_takeDown_58 <| ks_C_takeDown_59 <| ks_C_takeDown_68 ?_
                    exact k μ3 f4 (fun v' hv' => by obtain rfl : A.2.1 = v' := by injection hv'
                                                    exact a3 hA)
                · rw [if_neg h0] at e
                  rw [← e] at k
                  refine ks_C_takeDown_51 <| ks_C_takeDown_52 <| ks_C_takeDown_55 (fun h55 => ?_) (fun h55 => ?_)
                  · refine ks_C_takeDown_62 <| ks_C_takeDown_63 <| ks_C_takeDown_64 <| ks_C_takeDown_67 <| ks_C_takeDown_68 ?_
                    rw [c3.2.1]
                    exact k μ3 f4 (fun v' hv' => by cases hv')
                  · rw [c3.1, ki_eq, ki_0, nI_toInt (by omega)] at h55
                    omega
              · rw [c3.1, ki_eq, ki_3, nI_toInt (by omega)] at h17
                omega
          · have hA := kq_b_f h35
            rw [if_pos hA] at e
            rw [← e] at k
            refine ks_C_takeDown_38 <| ks_C_takeDown_39 <| ks_C_takeDown_40 <| ks_C_takeDown_43 <| ks_C_takeDown_44 ?_
            rw [c3.2.1]
            exact k μ3 f4 (fun v' hv' => by cases hv')
  refine ke_C_takeDown ?_
  refine ks_C_takeDown_0 <| ks_C_takeDown_1 <| ks_C_takeDown_2 <| ks_C_takeDown_5 <| ks_C_takeDown_6 <| ks_C_takeDown_7 <| ks_C_takeDown_10 <| ks_C_takeDown_11 rfl ?_
  have ff : kq_fr kC_6 μ (kq_wI (kq_wI μ 0 6 4 0) 0 6 2 3) := (kq_fr.rf.wI ⟨rfl, rfl⟩).wI ⟨rfl, rfl⟩
  refine loop 121 0 v 0 _ (by omega) (by omega) (by omega) hv (hi.fr ff ?_) (kC_hall ha ff) kc_ws ?_ (kC_f6 ff) hR
  · rw [kc_wr (fun q => absurd q.2 (by decide)), kc_wr (fun q => absurd q.2 (by decide))]; exact hi.1
  · rw [kc_wr (fun q => absurd q.2 (by decide)), kc_ws]; rfl
end KT11
theorem kz_tp {z : kz_S} (hz : kz_ok z) : kC_tp (kz_t z) (kz_n z) := ⟨hz.2.2.1, hz.2.2.2.1⟩
theorem ko_K_inquest {z : kz_S} (hz : kz_ok z) : kK_ct km_K_inquest [] z (sp_inquest z).2 (kq_I (sp_inquest z).1) := by
  intro μ Q ha k
  have hv := hz.1.1
  have hT := kz_tp hz
  have ok := tk_all_ok (t := kz_t z) hT.1 121 0 (kz_h z) 0 (by omega) (by have := hT.1; omega) (by omega) hv
  unfold sp_inquest at k
  have hi : kC_in (kz_t z) (kz_n z) μ := ⟨ha.n, ha.t⟩
  refine ke_K_inquest ?_
  refine ks_K_inquest_0 <| ks_K_inquest_1 <| ks_K_inquest_4 <| ks_K_inquest_5 <| ks_K_inquest_8 (by first | rfl | assumption) (Nat.le_of_ble_eq_true rfl) ?_
  refine kt_H_become rfl rfl (by decide) ha.h hv (fun μ1 a1 f1 => ?_)
  refine ks_K_inquest_11 <| ks_K_inquest_12 <| ks_K_inquest_15 <| ks_K_inquest_16 <| ks_K_inquest_19 (Nat.le_of_ble_eq_true rfl) ?_
  refine kt_C_takeDown hT (hi.fr2 f1) a1 hv (fun μ2 f2 g2 => ?_)
  generalize tk_all (kz_t z) (kz_n z) 121 0 (kz_h z) 0 = R at k ok g2
  have tr : kq_fr (fun a b => a = 2 ∨ (a = 0 ∧ b = 6)) μ (kq_wI μ2 0 6 1 0) := by
    refine (kq_fr.tr (f1.mono (fun a b q => Or.inl q.1)) (f2.mono (fun a b q => ?_))).wI (Or.inr ⟨rfl, rfl⟩)
    rcases q with e | e
    · exact Or.inr e
    · exact Or.inl e.1
  have tp : ∀ {w : kh_S} {μ3 : kq_M}, kc_at μ3 1 w → kq_fr (kc_P 1) (kq_wI μ2 0 6 1 0) μ3 → kK_at μ3 (kz_sett (kz_seth z w) 0 (kz_t z)) := by
    intro w μ3 a3 f3
    have ff : kq_fr (fun a b => (a = 2 ∨ (a = 0 ∧ b = 6)) ∨ kc_P 1 a b) μ μ3 := (tr.mono (fun a b q => Or.inl q)).tr (f3.mono (fun a b q => Or.inr q))
    have n1 : ∀ a b, a ≠ 2 → a ≠ 1 → ¬ (a = 0 ∧ b = 6) → ¬ ((a = 2 ∨ (a = 0 ∧ b = 6)) ∨ kc_P 1 a b) := fun a b h1 h2 h3 q => by
      rcases q with (e | e) | e
      · exact h1 e
      · exact h3 e
      · exact h2 e.1
    have n2 : ∀ a b, 6 < b → b ≠ 6 → (a = 2 → b ≠ 8 ∧ b ≠ 9) → True := fun _ _ _ _ _ => trivial
    have s8 : ∀ s k, s < 4 → kq_rI μ3 s 8 k = kq_rI μ s 8 k := fun s k hs => by
      have g1 : kq_rI μ1 s 8 k = kq_rI μ s 8 k := f1.1 _ _ _ (fun q => absurd q.2.2 (by decide))
      have g2 : kq_rI μ2 s 8 k = kq_rI μ1 s 8 k := f2.1 _ _ _ (fun q => by rcases q with e | e; exact absurd e.2 (by decide); exact absurd e.2.2 (by decide))
      rw [f3.1 _ _ _ (fun q => absurd q.2.2 (by decide)), kc_wr (fun q => absurd q.1 (by decide)), g2, g1]
    have s9 : ∀ s k, s < 4 → kq_rL μ3 s 9 k = kq_rL μ s 9 k := fun s k hs => by
      have g1 : kq_rL μ1 s 9 k = kq_rL μ s 9 k := f1.2.1 _ _ _ (fun q => absurd q.2.2 (by decide))
      have g2 : kq_rL μ2 s 9 k = kq_rL μ1 s 9 k := f2.2.1 _ _ _ (fun q => by rcases q with e | e; exact absurd e.2 (by decide); exact absurd e.2.2 (by decide))
      rw [f3.2.1 _ _ _ (fun q => absurd q.2.2 (by decide)), kq_rL_wI, g2, g1]
    refine ⟨a3, ?_, fun hb => (ha.k hb).fr ff (fun b _ _ => n1 _ _ (by decide) (by decide) (by omega)), ?_, fun j hj => absurd hj (by show ¬ j < 0; omega), fun s hs => ?_, fun s hs => ?_, fun s hs j hj => ?_, fun x hx => ?_⟩
    · rw [ff.1 _ _ _ (n1 0 0 (by decide) (by decide) (by omega))]; exact ha.b
    · rw [f3.1 _ _ _ (fun q => absurd q.1 (by decide)), kc_ws]; rfl
    · rw [s8 s 0 hs]; exact ha.B s hs
    · rw [s8 s 1 hs]; exact ha.L s hs
    · rw [s9 s j hs]; exact ha.N s hs j hj
    · rw [ff.1 _ _ _ (n1 0 11 (by decide) (by decide) (by omega))]; exact ha.f x hx
  have trP : kq_fr kK_P μ (kq_wI μ2 0 6 1 0) := by
    refine (kq_fr.tr (f1.mono (fun a b q => ?_)) (f2.mono (fun a b q => ?_))).wI (show 6 ≤ 11 by decide)
    · have := q.2.2
      show b ≤ 11
      omega
    · show b ≤ 11
      rcases q with e | e
      · have := e.2; omega
      · have := e.2.2; omega
  have h1w : kc_at (kq_wI μ2 0 6 1 0) 1 (kz_h z) := ha.h.fr tr (fun b _ _ q => by rcases q with e | e; exact absurd e (by decide); exact absurd e.1 (by decide))
  refine ks_K_inquest_22 rfl <| ks_K_inquest_23 <| ks_K_inquest_24 <| ks_K_inquest_27 <| ks_K_inquest_28 <| ks_K_inquest_31 <| ks_K_inquest_32 (fun h32 => ?_) (fun h32 => ?_)
  · refine ks_K_inquest_46 <| ks_K_inquest_47 ?_
    cases h : R.2 with
    | none =>
      rw [h] at k
      dsimp only at k
      have g := tp h1w kq_fr.rf
      exact k _ g trP
    | some v' =>
      have := (ok.2 v' h).1
      rw [ki_le] at this
      rw [ki_lt] at h32
      omega
  · cases h : R.2 with
    | none => exact absurd (by rw [ki_le]; rw [ki_lt] at h32; omega) (ok.1 h)
    | some v' =>
      rw [h] at k
      dsimp only at k
      have a2 : kc_at (kq_wI μ2 0 6 1 0) 2 v' := (g2 v' h).fr (P := fun a b => a = 0 ∧ b = 6) (kq_fr.rf.wI ⟨rfl, rfl⟩) (fun b _ _ q => absurd q.1 (by decide))
      refine ks_K_inquest_35 <| ks_K_inquest_36 <| ks_K_inquest_39 <| ks_K_inquest_40 <| ks_K_inquest_43 (by first | rfl | assumption) (Nat.le_of_ble_eq_true rfl) ?_
      refine kt_H_become rfl rfl (by decide) a2 (ok.2 v' h).2.1 (fun μ3 a3 f3 => ?_)
      refine ks_K_inquest_46 <| ks_K_inquest_47 ?_
      exact k μ3 (tp a3 f3) (trP.tr (kK_frP (kK_fr1 f3)))
