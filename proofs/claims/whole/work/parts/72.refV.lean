/-! THE REFERENCE's TEXT: what may follow a witness -/
section KM22
variable {d n p : Nat} {t : Nat → Int32} {T : tk_T} {g : Bool} {μ μ' : kq_M} {Q : Option kq_V → kq_M → Prop}
theorem kt_M_mayWant {C : Int64} (hC : C = Int64.ofNat (kd_c 6)) (hT : kC_tp t n) (hS : kR_S t n μ T true) (hf : tk_fr t n p T) (k1 : (tk_sure t n T).1 = true → ∀ μ', kR_S t n μ' (tk_sure t n T).2.2 true → kR_f μ μ' → Q (some (kq_I (tk_sure t n T).2.1)) μ') (k2 : (tk_sure t n T).1 = false → ∀ μ' x, kR_S t n μ' (tk_sure t n T).2.2 false → kR_f μ μ' → Q (some (kq_I x)) μ') : kq_Call (d + 4) km_M_mayWant [kq_R 0 20, kq_L C, kq_I 0, kq_I 9, kq_I 3] μ Q := by
  refine ke_M_mayWant ?_
  refine ks_M_mayWant_0 <| ks_M_mayWant_1 <| ks_M_mayWant_4 (fun h4 => ?_) (fun h4 => ?_)
  · rw [hS.2.2] at h4
    exact absurd h4 (by decide)
  · refine ks_M_mayWant_7 <| ks_M_mayWant_8 <| ks_M_mayWant_9 (Nat.le_of_ble_eq_true rfl) ?_
    refine kt_M_isWord 6 (by decide) hC hf hS.2.1 ?_
    refine ks_M_mayWant_12 (fun h12 => ?_) (fun h12 => ?_)
    · have hw := kq_b_t h12
      refine ks_M_mayWant_18 <| ks_M_mayWant_19 (Nat.le_of_ble_eq_true rfl) ?_
      refine kt_M_adv hT hS hf (fun μ1 S1 f1 => ?_)
      refine ks_M_mayWant_22 <| ks_M_mayWant_23 <| ks_M_mayWant_24 <| ks_M_mayWant_26 (Nat.le_of_ble_eq_true rfl) ?_
      refine kt_M_wantNumber (m := 9) (by decide) hT S1 hf.nx (fun _ h9 μ2 S2 f2 => ?_) (fun h9 μ2 x S2 f2 => ?_)
      · have e : tk_sure t n T = _ := (if_pos hw).trans (if_pos h9)
        rw [e] at k1
        refine ks_M_mayWant_29 ?_
        exact k1 rfl μ2 S2 (f1.tr f2)
      · have h9' : ¬ tk_num (tk_nx t n T) 9 = true := fun q => by rcases h9 with y | y; exact absurd y (by decide); rw [q] at y; exact absurd y (by decide)
        have e : tk_sure t n T = _ := (if_pos hw).trans (if_neg h9')
        rw [e] at k2
        refine ks_M_mayWant_29 ?_
        exact k2 rfl μ2 x S2 (f1.tr f2)
    · have e : tk_sure t n T = _ := if_neg (show ¬ tk_w t T 6 = true by rw [kq_b_f h12]; decide)
      rw [e] at k1
      refine ks_M_mayWant_15 <| ks_M_mayWant_17 ?_
      exact k1 rfl μ hS kR_f.rf
theorem kI_or0 (x : Int32) : x ||| 0 = x := Int32.or_zero
/-- facts: good, or a number stands where none may -/
theorem kt_M_mayFacts (r : Nat) {C : Int64} (hr : r < 12) (hC : C = Int64.ofNat (kd_c r)) (hT : kC_tp t n) (hS : kR_S t n μ T true) (hf : tk_fr t n p T) (k1 : (tk_fact t n r T).1 = true → ∀ μ', kR_S t n μ' (tk_fact t n r T).2.2 true → kR_f μ μ' → Q (some (kq_I (tk_fact t n r T).2.1)) μ') (k2 : ((tk_fact t n r T).1 = false ∨ tk_o (tk_fact t n r T).2.2 = 2) → ∀ μ' x, kR_S t n μ' (tk_fact t n r T).2.2 false → kR_f μ μ' → Q (some (kq_I x)) μ') : kq_Call (d + 4) km_M_mayFacts [kq_R 0 20, kq_L C] μ Q := by
  refine ke_M_mayFacts ?_
  refine ks_M_mayFacts_0 <| ks_M_mayFacts_1 <| ks_M_mayFacts_4 (fun h4 => ?_) (fun h4 => ?_)
  · rw [hS.2.2] at h4
    exact absurd h4 (by decide)
  · refine ks_M_mayFacts_7 <| ks_M_mayFacts_8 <| ks_M_mayFacts_9 (Nat.le_of_ble_eq_true rfl) ?_
    refine kt_M_isWord r hr hC hf hS.2.1 ?_
    refine ks_M_mayFacts_12 (fun h12 => ?_) (fun h12 => ?_)
    · have hw := kq_b_t h12
      have e : tk_fact t n r T = _ := if_pos hw
      rw [e] at k1 k2
      clear e
      generalize hF : tk_fs t n 4 0 0 (tk_nx t n T) = F at k1 k2
      have loop : ∀ (q c : Nat) (S : Int32) (T1 : tk_T) (μ1 : kq_M) (o5 : Option kq_V), c + q = 4 → kR_S t n μ1 T1 true → tk_fr t n p T1 → kR_f μ μ1 → tk_fs t n q S c T1 = F → kq_S km_M_mayFacts (d + 4) 26 [some (kq_R 0 20), some (kq_L C), none, some (kq_I S), some (kq_I (nI c)), o5] [] μ1 Q := by
        intro q
        induction q with
        | zero =>
          intro c S T1 μ1 o5 hc S1 r1 f1 e
          have e' : (S, c, T1) = F := e
          subst e'
          refine ks_M_mayFacts_26 <| ks_M_mayFacts_28 <| ks_M_mayFacts_29 (fun h29 => ?_) (fun h29 => ?_)
          · refine ks_M_mayFacts_85 <| ks_M_mayFacts_86 ?_
            exact k1 (decide_eq_true (show 0 < c by omega)) μ1 S1 f1
          · rw [ki_le, ki_4, nI_toInt (by omega)] at h29
            omega
        | succ q ih =>
          intro c S T1 μ1 o5 hc S1 r1 f1 e
          have e1 : tk_fs t n (q + 1) S c T1 = if tk_num T1 7 = true then tk_fs t n q (S ||| tk_bit T1) (c + 1) (tk_nx t n T1) else (S, c, T1) := rfl
          have want : (c = 0 ∨ tk_o T1 = 2) → kq_S km_M_mayFacts (d + 4) 52 [some (kq_R 0 20), some (kq_L C), none, some (kq_I S), some (kq_I (nI c)), o5] [] μ1 Q := by
            intro hc0
            refine ks_M_mayFacts_52 <| ks_M_mayFacts_53 <| ks_M_mayFacts_54 <| ks_M_mayFacts_56 (Nat.le_of_ble_eq_true rfl) ?_
            refine kt_M_wantNumber (m := 7) (by decide) hT S1 r1 (fun _ h7 μ2 S2 f2 => ?_) (fun h7 μ2 x S2 f2 => ?_)
            · rw [if_pos h7] at e1
              refine ks_M_mayFacts_59 rfl <| ks_M_mayFacts_61 <| ks_M_mayFacts_62 <| ks_M_mayFacts_63 <| ks_M_mayFacts_66 (fun h66 => ?_) (fun h66 => ?_)
              · rw [S2.2.2] at h66
                exact absurd h66 (by decide)
              · refine ks_M_mayFacts_69 <| ks_M_mayFacts_70 <| ks_M_mayFacts_72 <| ks_M_mayFacts_73 <| ks_M_mayFacts_77 <| ks_M_mayFacts_78 rfl <| ks_M_mayFacts_79n rfl <| ks_M_mayFacts_82 ?_
                exact ih (c + 1) (S ||| tk_bit T1) (tk_nx t n T1) μ2 _ (by omega) S2 r1.nx (f1.tr f2) (e1.symm.trans e)
            · have h7' : ¬ tk_num T1 7 = true := fun q => by rcases h7 with y | y; exact absurd y (by decide); rw [q] at y; exact absurd y (by decide)
              rw [if_neg h7'] at e1
              have e2 := e1.symm.trans e
              subst e2
              have fin : kq_S km_M_mayFacts (d + 4) 85 [some (kq_R 0 20), some (kq_L C), none, some (kq_I (S ||| 0)), some (kq_I (nI (c + 1))), some (kq_I x)] [] μ2 Q := by
                refine ks_M_mayFacts_85 <| ks_M_mayFacts_86 ?_
                refine k2 ?_ μ2 _ S2 (f1.tr f2)
                rcases hc0 with y | y
                · exact Or.inl (decide_eq_false (by show ¬ 0 < c; omega))
                · exact Or.inr y
              refine ks_M_mayFacts_59 rfl <| ks_M_mayFacts_61 <| ks_M_mayFacts_62 <| ks_M_mayFacts_63 <| ks_M_mayFacts_66 (fun h66 => ?_) (fun h66 => ?_)
              · refine ks_M_mayFacts_76 <| ks_M_mayFacts_77 <| ks_M_mayFacts_78 rfl <| ks_M_mayFacts_79n rfl <| ks_M_mayFacts_82 ?_
                refine ks_M_mayFacts_26 <| ks_M_mayFacts_28 <| ks_M_mayFacts_29 (fun h29 => ?_) (fun h29 => ?_)
                · exact fin
                · refine ks_M_mayFacts_32 <| ks_M_mayFacts_33 <| ks_M_mayFacts_36 (fun h36 => ?_) (fun h36 => ?_)
                  · exact fin
                  · rw [S2.2.2] at h36
                    exact absurd rfl h36
              · rw [S2.2.2] at h66
                exact absurd rfl h66
          refine ks_M_mayFacts_26 <| ks_M_mayFacts_28 <| ks_M_mayFacts_29 (fun h29 => ?_) (fun h29 => ?_)
          · rw [ki_le, ki_4, nI_toInt (by omega)] at h29
            omega
          · refine ks_M_mayFacts_32 <| ks_M_mayFacts_33 <| ks_M_mayFacts_36 (fun h36 => ?_) (fun h36 => ?_)
            · rw [S1.2.2] at h36
              exact absurd h36 (by decide)
            · refine ks_M_mayFacts_39 <| ks_M_mayFacts_41 (fun h41 => ?_) (fun h41 => ?_)
              · rw [ki_eq, ki_0, nI_toInt (by omega)] at h41
                exact want (Or.inl (by omega))
              · rw [ki_eq, ki_0, nI_toInt (by omega)] at h41
                refine ks_M_mayFacts_44 <| ks_M_mayFacts_45 <| ks_M_mayFacts_48 <| ks_M_mayFacts_49 (fun h49 => ?_) (fun h49 => ?_)
                · rw [S1.2.1.1, kR_so2 r1.ae.2.2.2.2] at h49
                  rw [if_neg (fun q => h49 (tk_n2 q).1)] at e1
                  have e2 := e1.symm.trans e
                  subst e2
                  refine ks_M_mayFacts_85 <| ks_M_mayFacts_86 ?_
                  exact k1 (decide_eq_true (show 0 < c by omega)) μ1 S1 f1
                · rw [S1.2.1.1, kR_so2 r1.ae.2.2.2.2] at h49
                  exact want (Or.inr h49)
      refine ks_M_mayFacts_17 <| ks_M_mayFacts_18 (Nat.le_of_ble_eq_true rfl) ?_
      refine kt_M_adv hT hS hf (fun μ1 S1 f1 => ?_)
      refine ks_M_mayFacts_21 <| ks_M_mayFacts_22 rfl <| ks_M_mayFacts_23 <| ks_M_mayFacts_24 rfl ?_
      exact loop 4 0 0 (tk_nx t n T) μ1 none rfl S1 hf.nx f1 hF
    · have e : tk_fact t n r T = _ := if_neg (show ¬ tk_w t T r = true by rw [kq_b_f h12]; decide)
      rw [e] at k1
      refine ks_M_mayFacts_15 <| ks_M_mayFacts_16 ?_
      exact k1 rfl μ hS kR_f.rf
end KM22
