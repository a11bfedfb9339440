/-! THE REFERENCE's TEXT: items -/
def kR_h (μ μ' : kq_M) : Prop := kq_fr (fun a b => a = 0 ∧ (b = 20 ∨ b = 21)) μ μ' ∧ kq_rI μ' 0 20 6 = kq_rI μ 0 20 6 ∧ kq_rI μ' 0 20 19 = kq_rI μ 0 20 19
/-- what the loop looks at behind an item -/
def kR_V (t : Nat → Int32) (n : Nat) (μ : kq_M) (T : tk_T) (g : Bool) : Prop := kR_in t n μ ∧ kq_rI μ 0 20 7 = kR_so (tk_o T) ∧ kq_rI μ 0 20 8 = nI (tk_a T) ∧ kq_rI μ 0 20 9 = nI (tk_e T) ∧ (tk_o T = 3 → kq_rI μ 0 20 11 = 59) ∧ (tk_o T = 4 → ¬ kq_rI μ 0 20 11 = 59) ∧ kq_rI μ 0 20 12 = kq_b g
def kR_res (t : Nat → Int32) (n : Nat) (μ μ' : kq_M) (A : Bool × kh_S × tk_T) : Prop := ∃ g : Bool, kR_V t n μ' A.2.2 g ∧ kR_h μ μ' ∧ (g = true → A.1 = true ∧ kr_at μ' 21 A.2.1) ∧ (g = false → A.1 = false ∨ tk_o A.2.2 = 2)
section KM23
variable {d n p : Nat} {t : Nat → Int32} {T : tk_T} {g : Bool} {v : kh_S} {μ μ' : kq_M} {Q : Option kq_V → kq_M → Prop}
theorem kR_h.rf : kR_h μ μ := ⟨kq_fr.rf, rfl, rfl⟩
theorem kR_h.tr {μ'' : kq_M} (h : kR_h μ μ') (h' : kR_h μ' μ'') : kR_h μ μ'' := ⟨h.1.tr h'.1, h'.2.1.trans h.2.1, h'.2.2.trans h.2.2⟩
theorem kR_f.h (h : kR_f μ μ') : kR_h μ μ' := ⟨h.1.mono (fun a b q => ⟨q.1, Or.inl q.2⟩), h.2 6 (by decide), h.2 19 (by decide)⟩
theorem kM_m.r (h : kM_m μ μ') : kR_h μ μ' := ⟨h.1, h.2 6 (by decide), h.2 19 (by decide)⟩
theorem kR_S.V (h : kR_S t n μ T g) : kR_V t n μ T g := ⟨h.1, h.2.1.1, h.2.1.2.1, h.2.1.2.2.1, h.2.1.2.2.2.2.2.1, h.2.1.2.2.2.2.2.2, h.2.2⟩
theorem kR_V.m (h : kR_V t n μ T g) (hf : kM_m μ μ') : kR_V t n μ' T g := by
  have w : ∀ k, k ≠ 2 → kq_rI μ' 0 20 k = kq_rI μ 0 20 k := hf.2
  refine ⟨⟨(w 6 (by decide)).trans h.1.1, fun j hj => (hf.1.1 _ _ _ (fun q => by have := q.2; omega)).trans (h.1.2 j hj)⟩, (w 7 (by decide)).trans h.2.1, (w 8 (by decide)).trans h.2.2.1, (w 9 (by decide)).trans h.2.2.2.1, fun q => (w 11 (by decide)).trans (h.2.2.2.2.1 q), fun q => by rw [w 11 (by decide)]; exact h.2.2.2.2.2.1 q, (w 12 (by decide)).trans h.2.2.2.2.2.2⟩
theorem kR_f.row (h : kR_f μ μ') (ha : kr_at μ 21 v) : kr_at μ' 21 v := ha.fr h.1 (fun q => by cases q.2)
theorem kt_M_kindHere (hf : tk_fr t n p T) (hT : kR_T t μ T) (k : Q (some (kq_I (tk_kind t T))) μ) : kq_Call (d + 1) km_M_kindHere [kq_R 0 20] μ Q := by
  have e : tk_kind t T = if tk_w t T 5 = true then 0 else if tk_w t T 0 = true then 1 else if tk_w t T 1 = true then 2 else if tk_w t T 2 = true then 3 else if tk_w t T 3 = true then 4 else if tk_w t T 4 = true then 5 else -1 := rfl
  have fin : ∀ x : Int32, x = tk_kind t T → kq_S km_M_kindHere (d + 1) 85 [some (kq_R 0 20)] [kq_I x] μ Q := by
    intro x hx
    subst hx
    refine ks_M_kindHere_85 ?_
    exact k
  refine ke_M_kindHere ?_
  refine ks_M_kindHere_0 <| ks_M_kindHere_1 <| ks_M_kindHere_4 (Nat.le_of_ble_eq_true rfl) ?_
  refine kt_M_isWord 5 (by decide) (by decide) hf hT ?_
  refine ks_M_kindHere_7 (fun h7 => ?_) (fun h7 => ?_)
  · rw [if_neg (by rw [kq_b_f h7]; decide)] at e
    refine ks_M_kindHere_14 <| ks_M_kindHere_15 <| ks_M_kindHere_18 (Nat.le_of_ble_eq_true rfl) ?_
    refine kt_M_isWord 0 (by decide) (by decide) hf hT ?_
    refine ks_M_kindHere_21 (fun h21 => ?_) (fun h21 => ?_)
    · rw [if_neg (by rw [kq_b_f h21]; decide)] at e
      refine ks_M_kindHere_28 <| ks_M_kindHere_29 <| ks_M_kindHere_32 (Nat.le_of_ble_eq_true rfl) ?_
      refine kt_M_isWord 1 (by decide) (by decide) hf hT ?_
      refine ks_M_kindHere_35 (fun h35 => ?_) (fun h35 => ?_)
      · rw [if_neg (by rw [kq_b_f h35]; decide)] at e
        refine ks_M_kindHere_42 <| ks_M_kindHere_43 <| ks_M_kindHere_46 (Nat.le_of_ble_eq_true rfl) ?_
        refine kt_M_isWord 2 (by decide) (by decide) hf hT ?_
        refine ks_M_kindHere_49 (fun h49 => ?_) (fun h49 => ?_)
        · rw [if_neg (by rw [kq_b_f h49]; decide)] at e
          refine ks_M_kindHere_56 <| ks_M_kindHere_57 <| ks_M_kindHere_60 (Nat.le_of_ble_eq_true rfl) ?_
          refine kt_M_isWord 3 (by decide) (by decide) hf hT ?_
          refine ks_M_kindHere_63 (fun h63 => ?_) (fun h63 => ?_)
          · rw [if_neg (by rw [kq_b_f h63]; decide)] at e
            refine ks_M_kindHere_70 <| ks_M_kindHere_71 <| ks_M_kindHere_74 (Nat.le_of_ble_eq_true rfl) ?_
            refine kt_M_isWord 4 (by decide) (by decide) hf hT ?_
            refine ks_M_kindHere_77 (fun h77 => ?_) (fun h77 => ?_)
            · rw [if_neg (by rw [kq_b_f h77]; decide)] at e
              refine ks_M_kindHere_84 ?_
              exact fin _ e.symm
            · rw [if_pos (kq_b_t h77)] at e
              refine ks_M_kindHere_80 <| ks_M_kindHere_81 ?_
              exact fin _ e.symm
          · rw [if_pos (kq_b_t h63)] at e
            refine ks_M_kindHere_66 <| ks_M_kindHere_67 ?_
            exact fin _ e.symm
        · rw [if_pos (kq_b_t h49)] at e
          refine ks_M_kindHere_52 <| ks_M_kindHere_53 ?_
          exact fin _ e.symm
      · rw [if_pos (kq_b_t h35)] at e
        refine ks_M_kindHere_38 <| ks_M_kindHere_39 ?_
        exact fin _ e.symm
    · rw [if_pos (kq_b_t h21)] at e
      refine ks_M_kindHere_24 <| ks_M_kindHere_25 ?_
      exact fin _ e.symm
  · rw [if_pos (kq_b_t h7)] at e
    refine ks_M_kindHere_10 <| ks_M_kindHere_11 ?_
    exact fin _ e.symm
theorem kt_M_mayFacts0 {C : Int64} (hg : kq_rI μ 0 20 12 = 0) (k : Q (some (kq_I 0)) μ) : kq_Call (d + 4) km_M_mayFacts [kq_R 0 20, kq_L C] μ Q := by
  refine ke_M_mayFacts ?_
  refine ks_M_mayFacts_0 <| ks_M_mayFacts_1 <| ks_M_mayFacts_4 (fun h4 => ?_) (fun h4 => ?_)
  · refine ks_M_mayFacts_15 <| ks_M_mayFacts_16 ?_
    exact k
  · exact absurd hg h4
theorem tk_fact2 {r : Nat} (h : tk_o T = 2) : tk_fact t n r T = (true, 0, T) := if_neg (fun q => by have := tk_w1 q; omega)
theorem kt_M_wantOne {kd : Int32} (hT : kC_tp t n) (hS : kR_S t n μ T true) (hf : tk_fr t n p T) (ha : kr_at μ 21 v) (hc : kh_c v ≤ 8) (k : ∀ μ', kR_res t n μ μ' (tk_wit t n v kd T) → Q none μ') : kq_Call (d + 5) km_M_wantOne [kq_R 0 20, kq_I kd] μ Q := by
  have e : tk_wit t n v kd T = if 8 ≤ kh_c v then (false, v, T) else if (tk_sure t n (tk_nx t n T)).1 = false then (false, v, (tk_sure t n (tk_nx t n T)).2.2)
    else if (tk_fact t n 7 (tk_sure t n (tk_nx t n T)).2.2).1 = false then (false, v, (tk_fact t n 7 (tk_sure t n (tk_nx t n T)).2.2).2.2)
    else if (tk_fact t n 8 (tk_fact t n 7 (tk_sure t n (tk_nx t n T)).2.2).2.2).1 = false then (false, v, (tk_fact t n 8 (tk_fact t n 7 (tk_sure t n (tk_nx t n T)).2.2).2.2).2.2)
    else (true, kh_add v kd (tk_fact t n 8 (tk_fact t n 7 (tk_sure t n (tk_nx t n T)).2.2).2.2).2.1 (tk_fact t n 7 (tk_sure t n (tk_nx t n T)).2.2).2.1 (tk_sure t n (tk_nx t n T)).2.1, (tk_fact t n 8 (tk_fact t n 7 (tk_sure t n (tk_nx t n T)).2.2).2.2).2.2) := rfl
  refine ke_M_wantOne ?_
  refine ks_M_wantOne_0 <| ks_M_wantOne_1 <| ks_M_wantOne_2 <| ks_M_wantOne_5 <| ks_M_wantOne_7 <| ks_M_wantOne_8 <| ks_M_wantOne_10 (fun h10 => ?_) (fun h10 => ?_)
  · rw [ha.c, ki_le, nI_toInt (by omega), show (8 : Int32).toInt = 8 from by decide] at h10
    rw [if_pos (by omega)] at e
    rw [e] at k
    have G := hS.good (b := false) (x := 0) rfl
    refine ks_M_wantOne_17 <| ks_M_wantOne_18 (by first | exact kq_b01' _ | exact Or.inl rfl | exact Or.inr rfl | assumption) <| ks_M_wantOne_21 <| ks_M_wantOne_22 <| ks_M_wantOne_25 (fun h25 => ?_) (fun h25 => ?_)
    · exact absurd kc_ws h25
    · refine ks_M_wantOne_28 ?_
      exact k _ ⟨false, G.1.V, G.2.h, fun q => absurd q (by decide), fun _ => Or.inl rfl⟩
  · rw [ha.c, ki_le, nI_toInt (by omega), show (8 : Int32).toInt = 8 from by decide] at h10
    have h8 : kh_c v < 8 := by omega
    rw [if_neg (by omega)] at e
    have G := hS.good (b := true) (x := 1) rfl
    have bad : ∀ (μ3 : kq_M) (x y c : Int32), kR_S t n μ3 (tk_wit t n v kd T).2.2 false → kR_f μ μ3 → ((tk_wit t n v kd T).1 = false ∨ tk_o (tk_wit t n v kd T).2.2 = 2) → kq_S km_M_wantOne (d + 5) 60 [some (kq_R 0 20), some (kq_I kd), some (kq_I x), some (kq_I y), none] [kq_I c] μ3 Q := by
      intro μ3 x y c S3 f3 hb
      refine ks_M_wantOne_60 rfl <| ks_M_wantOne_62 <| ks_M_wantOne_63 <| ks_M_wantOne_66 (fun h66 => ?_) (fun h66 => ?_)
      · refine ks_M_wantOne_78 ?_
        exact k _ ⟨false, S3.V, f3.h, fun q => absurd q (by decide), fun _ => hb⟩
      · exact absurd S3.2.2 h66
    refine ks_M_wantOne_13 <| ks_M_wantOne_14 <| ks_M_wantOne_18 (by first | exact kq_b01' _ | exact Or.inl rfl | exact Or.inr rfl | assumption) <| ks_M_wantOne_21 <| ks_M_wantOne_22 <| ks_M_wantOne_25 (fun h25 => ?_) (fun h25 => ?_)
    · refine ks_M_wantOne_29 <| ks_M_wantOne_30 (Nat.le_of_ble_eq_true rfl) ?_
      refine kt_M_adv hT G.1 hf (fun μ1 S1 f1 => ?_)
      have f1 := G.2.tr f1
      have hf1 : tk_fr t n p (tk_nx t n T) := hf.nx
      generalize tk_nx t n T = T1 at e S1 hf1
      refine ks_M_wantOne_33 <| ks_M_wantOne_34 <| ks_M_wantOne_37 <| ks_M_wantOne_38 <| ks_M_wantOne_40 <| ks_M_wantOne_41 (Nat.le_of_ble_eq_true rfl) ?_
      refine kt_M_mayWant (by decide) hT S1 hf1 (fun hA μ2 S2 f2 => ?_) (fun hA μ2 x S2 f2 => ?_)
      · have f2 := f1.tr f2
        rw [if_neg (by rw [hA]; decide)] at e
        have hf2 := (tk_sure_fr hf1).1
        generalize tk_sure t n T1 = A at e S2 hf2
        refine ks_M_wantOne_44 rfl <| ks_M_wantOne_45 <| ks_M_wantOne_46 <| ks_M_wantOne_49 (Nat.le_of_ble_eq_true rfl) ?_
        refine kt_M_mayFacts 7 (by decide) (by decide) hT S2 hf2 (fun hB μ3 S3 f3 => ?_) (fun hB μ3 x S3 f3 => ?_)
        · have f3 := f2.tr f3
          rw [if_neg (by rw [hB]; decide)] at e
          have hf3 := (tk_fact_fr (r := 7) hf2).1
          generalize tk_fact t n 7 A.2.2 = B at e S3 hf3
          refine ks_M_wantOne_52 rfl <| ks_M_wantOne_53 <| ks_M_wantOne_54 <| ks_M_wantOne_57 (Nat.le_of_ble_eq_true rfl) ?_
          refine kt_M_mayFacts 8 (by decide) (by decide) hT S3 hf3 (fun hC μ4 S4 f4 => ?_) (fun hC μ4 x S4 f4 => ?_)
          · have f4 := f3.tr f4
            rw [if_neg (by rw [hC]; decide)] at e
            generalize tk_fact t n 8 B.2.2 = C at e S4
            rw [e] at k
            refine ks_M_wantOne_60 rfl <| ks_M_wantOne_62 <| ks_M_wantOne_63 <| ks_M_wantOne_66 (fun h66 => ?_) (fun h66 => ?_)
            · exact absurd (S4.2.2.symm.trans h66) (by decide)
            · refine ks_M_wantOne_69 <| ks_M_wantOne_70 <| ks_M_wantOne_71 <| ks_M_wantOne_72 <| ks_M_wantOne_73 <| ks_M_wantOne_75 (Nat.le_of_ble_eq_true rfl) ?_
              refine kt_M_adds (f4.row ha) h8 (fun μ5 a5 f5 => ?_)
              refine ks_M_wantOne_78 ?_
              exact k _ ⟨true, S4.V.m f5, f4.h.tr f5.r, fun _ => ⟨rfl, a5⟩, fun q => absurd q (by decide)⟩
          · have f4 := f3.tr f4
            by_cases hC1 : (tk_fact t n 8 B.2.2).1 = false
            · rw [if_pos hC1] at e
              exact bad μ4 _ _ _ (by rw [e]; exact S4) f4 (by rw [e]; exact Or.inl rfl)
            · rw [if_neg hC1] at e
              exact bad μ4 _ _ _ (by rw [e]; exact S4) f4 (by rw [e]; exact Or.inr (hC.resolve_left hC1))
        · have f3 := f2.tr f3
          refine ks_M_wantOne_52 rfl <| ks_M_wantOne_53 <| ks_M_wantOne_54 <| ks_M_wantOne_57 (Nat.le_of_ble_eq_true rfl) ?_
          refine kt_M_mayFacts0 S3.2.2 ?_
          by_cases hB1 : (tk_fact t n 7 A.2.2).1 = false
          · rw [if_pos hB1] at e
            exact bad μ3 _ _ _ (by rw [e]; exact S3) f3 (by rw [e]; exact Or.inl rfl)
          · have o2 := hB.resolve_left hB1
            rw [if_neg hB1, tk_fact2 (r := 8) o2, if_neg (by show ¬ (true = false); decide)] at e
            exact bad μ3 _ _ _ (by rw [e]; exact S3) f3 (by rw [e]; exact Or.inr o2)
      · have f2 := f1.tr f2
        rw [if_pos hA] at e
        refine ks_M_wantOne_44 rfl <| ks_M_wantOne_45 <| ks_M_wantOne_46 <| ks_M_wantOne_49 (Nat.le_of_ble_eq_true rfl) ?_
        refine kt_M_mayFacts0 S2.2.2 ?_
        refine ks_M_wantOne_52 rfl <| ks_M_wantOne_53 <| ks_M_wantOne_54 <| ks_M_wantOne_57 (Nat.le_of_ble_eq_true rfl) ?_
        refine kt_M_mayFacts0 S2.2.2 ?_
        exact bad μ2 _ _ _ (by rw [e]; exact S2) f2 (by rw [e]; exact Or.inl rfl)
    · exact absurd (kc_ws.symm.trans h25) (by decide)
theorem kt_M_wantTruth {b : Bool} (hT : kC_tp t n) (hS : kR_S t n μ T true) (hf : tk_fr t n p T) (ha : kr_at μ 21 v) (k : ∀ μ', kR_res t n μ μ' (tk_tr t n v b T) → Q none μ') : kq_Call (d + 4) km_M_wantTruth [kq_R 0 20, kq_I (kq_b b)] μ Q := by
  refine ke_M_wantTruth ?_
  refine ks_M_wantTruth_0 <| ks_M_wantTruth_1 (Nat.le_of_ble_eq_true rfl) ?_
  refine kt_M_adv hT hS hf (fun μ1 S1 f1 => ?_)
  refine ks_M_wantTruth_4 <| ks_M_wantTruth_5 <| ks_M_wantTruth_6 <| ks_M_wantTruth_8 (Nat.le_of_ble_eq_true rfl) ?_
  refine kt_M_wantNumber (m := 7) (by decide) hT S1 hf.nx (fun _ h7 μ2 S2 f2 => ?_) (fun h7 μ2 x S2 f2 => ?_)
  · have e : tk_tr t n v b T = _ := if_pos h7
    rw [e] at k
    have f3 := f1.tr f2
    have a3 := f3.row ha
    refine ks_M_wantTruth_11 rfl <| ks_M_wantTruth_12 <| ks_M_wantTruth_13 <| ks_M_wantTruth_16 (fun h16 => ?_) (fun h16 => ?_)
    · exact absurd (S2.2.2.symm.trans h16) (by decide)
    · refine ks_M_wantTruth_19 <| ks_M_wantTruth_20 <| ks_M_wantTruth_23 <| ks_M_wantTruth_24 <| ks_M_wantTruth_25 (fun h25 => ?_) (fun h25 => ?_)
      · have hb := kq_b_f h25
        subst hb
        refine ks_M_wantTruth_41 <| ks_M_wantTruth_42 <| ks_M_wantTruth_45 <| ks_M_wantTruth_46 <| ks_M_wantTruth_47 <| ks_M_wantTruth_48 <| ks_M_wantTruth_49 <| ks_M_wantTruth_50 <| ks_M_wantTruth_51 <| ks_M_wantTruth_52 <| ks_M_wantTruth_53 <| ks_M_wantTruth_54 ?_
        rw [a3.T]
        exact k _ ⟨true, S2.V.m kM_m.rf.row, f3.h.tr kM_m.rf.row.r, fun _ => ⟨rfl, a3.wT⟩, fun q => absurd q (by decide)⟩
      · have hb := kq_b_t h25
        subst hb
        refine ks_M_wantTruth_28 <| ks_M_wantTruth_29 <| ks_M_wantTruth_32 <| ks_M_wantTruth_33 <| ks_M_wantTruth_34 <| ks_M_wantTruth_35 <| ks_M_wantTruth_36 <| ks_M_wantTruth_37 <| ks_M_wantTruth_38 <| ks_M_wantTruth_53 <| ks_M_wantTruth_54 ?_
        rw [a3.T]
        exact k _ ⟨true, S2.V.m kM_m.rf.row, f3.h.tr kM_m.rf.row.r, fun _ => ⟨rfl, a3.wT⟩, fun q => absurd q (by decide)⟩
  · have h7' : ¬ tk_num (tk_nx t n T) 7 = true := fun q => by rcases h7 with y | y; exact absurd y (by decide); rw [q] at y; exact absurd y (by decide)
    have e : tk_tr t n v b T = _ := if_neg h7'
    rw [e] at k
    refine ks_M_wantTruth_11 rfl <| ks_M_wantTruth_12 <| ks_M_wantTruth_13 <| ks_M_wantTruth_16 (fun h16 => ?_) (fun h16 => ?_)
    · refine ks_M_wantTruth_54 ?_
      exact k _ ⟨false, S2.V, (f1.tr f2).h, fun q => absurd q (by decide), fun _ => Or.inl rfl⟩
    · exact absurd S2.2.2 h16
theorem kt_M_wantItem (hT : kC_tp t n) (hS : kR_S t n μ T true) (hf : tk_fr t n p T) (ha : kr_at μ 21 v) (hc : kh_c v ≤ 8) (k : ∀ μ', kR_res t n μ μ' (tk_item t n v T) → Q none μ') : kq_Call (d + 6) km_M_wantItem [kq_R 0 20] μ Q := by
  refine ke_M_wantItem ?_
  refine ks_M_wantItem_0 <| ks_M_wantItem_1 (Nat.le_of_ble_eq_true rfl) ?_
  refine kt_M_kindHere hf hS.2.1 ?_
  refine ks_M_wantItem_4 (fun h4 => ?_) (fun h4 => ?_)
  · have eA : tk_item t n v T = _ := if_neg (show ¬ 0 ≤ tk_kind t T by rw [ki_lt] at h4; rw [ki_le]; omega)
    refine ks_M_wantItem_18 <| ks_M_wantItem_19 <| ks_M_wantItem_22 (Nat.le_of_ble_eq_true rfl) ?_
    refine kt_M_isWord 9 (by decide) (by decide) hf hS.2.1 ?_
    refine ks_M_wantItem_25 (fun h25 => ?_) (fun h25 => ?_)
    · rw [if_neg (by rw [kq_b_f h25]; decide)] at eA
      refine ks_M_wantItem_36 <| ks_M_wantItem_37 <| ks_M_wantItem_40 (Nat.le_of_ble_eq_true rfl) ?_
      refine kt_M_isWord 10 (by decide) (by decide) hf hS.2.1 ?_
      refine ks_M_wantItem_43 (fun h43 => ?_) (fun h43 => ?_)
      · rw [if_neg (by rw [kq_b_f h43]; decide)] at eA
        refine ks_M_wantItem_54 <| ks_M_wantItem_55 <| ks_M_wantItem_58 (Nat.le_of_ble_eq_true rfl) ?_
        refine kt_M_isWord 11 (by decide) (by decide) hf hS.2.1 ?_
        refine ks_M_wantItem_61 (fun h61 => ?_) (fun h61 => ?_)
        · rw [if_neg (by rw [kq_b_f h61]; decide)] at eA
          rw [eA] at k
          have G := hS.good (b := false) (x := 0) rfl
          refine ks_M_wantItem_102 <| ks_M_wantItem_103 <| ks_M_wantItem_104 <| ks_M_wantItem_107 ?_
          exact k _ ⟨false, G.1.V, G.2.h, fun q => absurd q (by decide), fun _ => Or.inl rfl⟩
        · rw [if_pos (kq_b_t h61)] at eA
          rw [eA] at k
          refine ks_M_wantItem_64 <| ks_M_wantItem_65 (Nat.le_of_ble_eq_true rfl) ?_
          refine kt_M_adv hT hS hf (fun μ1 S1 f1 => ?_)
          refine ks_M_wantItem_68 <| ks_M_wantItem_69 <| ks_M_wantItem_70 <| ks_M_wantItem_72 (Nat.le_of_ble_eq_true rfl) ?_
          refine kt_M_wantNumber (m := 99) (by decide) hT S1 hf.nx (fun _ h9 μ2 S2 f2 => ?_) (fun h9 μ2 x S2 f2 => ?_)
          · have e : tk_wa t n v T = _ := if_pos h9
            rw [e] at k
            have f3 := f1.tr f2
            refine ks_M_wantItem_75 rfl <| ks_M_wantItem_76 <| ks_M_wantItem_77 <| ks_M_wantItem_80 <| ks_M_wantItem_81 <| ks_M_wantItem_82 <| ks_M_wantItem_85 (fun h85 => ?_) (fun h85 => ?_)
            · exact absurd (S2.2.2.symm.trans h85) (by decide)
            · refine ks_M_wantItem_88 <| ks_M_wantItem_89 <| ks_M_wantItem_98 <| ks_M_wantItem_99 <| ks_M_wantItem_107 ?_
              exact k _ ⟨true, S2.V.m kM_m.rf.row, f3.h.tr kM_m.rf.row.r, fun _ => ⟨rfl, (f3.row ha).wW⟩, fun q => absurd q (by decide)⟩
          · have h9' : ¬ tk_num (tk_nx t n T) 99 = true := fun q => by rcases h9 with y | y; exact absurd y (by decide); rw [q] at y; exact absurd y (by decide)
            have e : tk_wa t n v T = _ := if_neg h9'
            rw [e] at k
            refine ks_M_wantItem_75 rfl <| ks_M_wantItem_76 <| ks_M_wantItem_77 <| ks_M_wantItem_80 <| ks_M_wantItem_81 <| ks_M_wantItem_82 <| ks_M_wantItem_85 (fun h85 => ?_) (fun h85 => ?_)
            · refine ks_M_wantItem_92 <| ks_M_wantItem_93 <| ks_M_wantItem_96 <| ks_M_wantItem_97 <| ks_M_wantItem_98 <| ks_M_wantItem_99 <| ks_M_wantItem_107 ?_
              exact k _ ⟨false, S2.V.m kM_m.rf.row, (f1.tr f2).h.tr kM_m.rf.row.r, fun q => absurd q (by decide), fun _ => Or.inl rfl⟩
            · exact absurd S2.2.2 h85
      · rw [if_pos (kq_b_t h43)] at eA
        rw [eA] at k
        refine ks_M_wantItem_46 <| ks_M_wantItem_47 <| ks_M_wantItem_48 (Nat.le_of_ble_eq_true rfl) ?_
        refine kt_M_wantTruth (b := false) hT hS hf ha (fun μ1 r1 => ?_)
        refine ks_M_wantItem_51 <| ks_M_wantItem_107 ?_
        exact k μ1 r1
    · rw [if_pos (kq_b_t h25)] at eA
      rw [eA] at k
      refine ks_M_wantItem_28 <| ks_M_wantItem_29 <| ks_M_wantItem_30 (Nat.le_of_ble_eq_true rfl) ?_
      refine kt_M_wantTruth (b := true) hT hS hf ha (fun μ1 r1 => ?_)
      refine ks_M_wantItem_33 <| ks_M_wantItem_107 ?_
      exact k μ1 r1
  · have eA : tk_item t n v T = _ := if_pos (show 0 ≤ tk_kind t T by rw [ki_lt] at h4; rw [ki_le]; omega)
    rw [eA] at k
    refine ks_M_wantItem_7 <| ks_M_wantItem_8 <| ks_M_wantItem_9 (Nat.le_of_ble_eq_true rfl) ?_
    refine kt_M_kindHere hf hS.2.1 ?_
    refine ks_M_wantItem_12 (Nat.le_of_ble_eq_true rfl) ?_
    refine kt_M_wantOne hT hS hf ha hc (fun μ1 r1 => ?_)
    refine ks_M_wantItem_15 <| ks_M_wantItem_107 ?_
    exact k μ1 r1
end KM23
