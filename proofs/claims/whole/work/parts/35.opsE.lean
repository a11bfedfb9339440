/-! THE CLASS's SHEETS -/
section KO5
variable {z : kz_S} {s b n i a w : Int32}
def kK_PS : Nat → Nat → Prop := fun a b => b = 8 ∨ b = 9 ∨ (a = 2 ∧ 1 ≤ b ∧ b ≤ 5)
theorem kK_at.sheets {μ μ' : kq_M} {B : Nat → Int32} {L : Nat → Nat} {N : Nat → Nat → Int64} (h : kK_at μ z) (hf : kq_fr kK_PS μ μ') (hB : ∀ s, s < 4 → kq_rI μ' s 8 0 = B s) (hL : ∀ s, s < 4 → kq_rI μ' s 8 1 = nI (L s)) (hN : ∀ s, s < 4 → ∀ j, j < 40 → kq_rL μ' s 9 j = N s j) : kK_at μ' (kz_sets z B L N) := by
  have o : ∀ a b, b ≠ 8 → b ≠ 9 → ¬ (a = 2 ∧ 1 ≤ b ∧ b ≤ 5) → ¬ kK_PS a b := fun a b h1 h2 h3 q => by rcases q with e | e | e; exact h1 e; exact h2 e; exact h3 e
  refine ⟨h.h.fr hf (fun b h1 h2 => o _ _ (by omega) (by omega) (by omega)), ?_, fun hb => (h.k hb).fr hf (fun b h1 h2 => o _ _ (by omega) (by omega) (by omega)), ?_, fun j hj => ?_, hB, hL, hN, fun k hk => ?_⟩
  · rw [hf.1 _ _ _ (o 0 0 (by decide) (by decide) (by omega))]; exact h.b
  · rw [hf.1 _ _ _ (o 0 6 (by decide) (by decide) (by omega))]; exact h.n
  · rw [hf.1 _ _ _ (o 0 7 (by decide) (by decide) (by omega))]; exact h.t j hj
  · rw [hf.1 _ _ _ (o 0 11 (by decide) (by decide) (by omega))]; exact h.f k hk
theorem kK_frS {μ μ' : kq_M} (h : kq_fr kK_PS μ μ') : kq_fr kK_P μ μ' := h.mono (fun _ b q => by rcases q with e | e | e <;> (show b ≤ 11; omega))
section KT7
variable {d r : Nat} {μ : kq_M} {Q : Option kq_V → kq_M → Prop}
theorem kt_S_layOut (hr : Nat.blt r 4 = true) (k : ∀ μ', kq_fr (fun x y => x = r ∧ (y = 8 ∨ y = 9)) μ μ' → kq_rI μ' r 8 0 = b → kq_rI μ' r 8 1 = (if b = 0 then 0 else n) → (∀ j, j < 40 → kq_rL μ' r 9 j = 0) → Q none μ') : kq_Call d km_S_layOut [kq_R r 8, kq_I b, kq_I n] μ Q := by
  have loop : ∀ (j i : Nat) (μ1 : kq_M), i + j = 40 → kq_fr (fun x y => x = r ∧ (y = 8 ∨ y = 9)) μ μ1 → kq_rI μ1 r 8 0 = b → kq_rI μ1 r 8 1 = (if b = 0 then 0 else n) → (∀ q, q < i → kq_rL μ1 r 9 q = 0) → kq_S km_S_layOut d 20 [some (kq_R r 8), some (kq_I b), some (kq_I n), some (kq_I (nI i))] [] μ1 Q := by
    intro j
    induction j with
    | zero =>
      intro i μ1 hi f1 e1 e2 e3
      refine ks_S_layOut_20 <| ks_S_layOut_21 <| ks_S_layOut_23 (fun h23 => ?_) (fun h23 => ?_)
      · refine ks_S_layOut_39 ?_
        exact k μ1 f1 e1 e2 (fun q hq => e3 q (by omega))
      · exact absurd (show (40 : Int32) ≤ nI i by rw [show i = 40 by omega]; decide) h23
    | succ j ih =>
      intro i μ1 hi f1 e1 e2 e3
      refine ks_S_layOut_20 <| ks_S_layOut_21 <| ks_S_layOut_23 (fun h23 => ?_) (fun h23 => ?_)
      · exact absurd h23 (by rw [ki_le, ki_40, nI_toInt (by omega)]; omega)
      · refine ks_S_layOut_26 <| ks_S_layOut_27 (by first | rfl | assumption) <| ks_S_layOut_30 <| ks_S_layOut_31 <| ks_S_layOut_32n (by first | rfl | assumption) (by omega) <| ks_S_layOut_33n rfl <| ks_S_layOut_36 ?_
        refine ih (i + 1) _ (by omega) (f1.wL ⟨rfl, Or.inr rfl⟩) e1 e2 (fun q hq => ?_)
        rw [kq_rL_wL]
        by_cases e : q = i
        · rw [if_pos ⟨rfl, rfl, e⟩]
        · rw [if_neg (fun y => e y.2.2)]
          exact e3 q (by omega)
  refine ke_S_layOut ?_
  refine ks_S_layOut_0 <| ks_S_layOut_1 <| ks_S_layOut_2 (by first | rfl | assumption) <| ks_S_layOut_5 <| ks_S_layOut_6 <| ks_S_layOut_7 (fun h7 => ?_) (fun h7 => ?_)
  · refine ks_S_layOut_14 <| ks_S_layOut_15 (by first | rfl | assumption) <| ks_S_layOut_18 <| ks_S_layOut_19 rfl ?_
    refine loop 40 0 _ rfl ((kq_fr.rf.wI ⟨rfl, Or.inl rfl⟩).wI ⟨rfl, Or.inl rfl⟩) ?_ ?_ (fun q hq => absurd hq (by omega))
    · rw [kc_wr (fun q => absurd q.2 (by decide)), kc_ws]
    · rw [kc_ws, if_neg h7]
  · refine ks_S_layOut_10 <| ks_S_layOut_11 <| ks_S_layOut_15 (by first | rfl | assumption) <| ks_S_layOut_18 <| ks_S_layOut_19 rfl ?_
    refine loop 40 0 _ rfl ((kq_fr.rf.wI ⟨rfl, Or.inl rfl⟩).wI ⟨rfl, Or.inl rfl⟩) ?_ ?_ (fun q hq => absurd hq (by omega))
    · rw [kc_wr (fun q => absurd q.2 (by decide)), kc_ws]
    · rw [kc_ws, if_pos h7]
theorem kt_S_isMissing (hr : Nat.blt r 4 = true) (k : Q (some (kq_I (kq_b (decide (kq_rI μ r 8 0 = 0))))) μ) : kq_Call d km_S_isMissing [kq_R r 8] μ Q := by
  refine ke_S_isMissing ?_
  refine ks_S_isMissing_0 <| ks_S_isMissing_1 (by first | rfl | assumption) <| ks_S_isMissing_4 (fun h4 => ?_) (fun h4 => ?_)
  · refine ks_S_isMissing_11 <| ks_S_isMissing_12 (by first | exact kq_b01' _ | exact Or.inl rfl | exact Or.inr rfl | assumption) ?_
    rw [decide_eq_false h4] at k
    exact k
  · refine ks_S_isMissing_7 <| ks_S_isMissing_8 <| ks_S_isMissing_12 (by first | exact kq_b01' _ | exact Or.inl rfl | exact Or.inr rfl | assumption) ?_
    rw [decide_eq_true h4] at k
    exact k
theorem kt_S_lowestBits {v : Int64} (hr : Nat.blt r 4 = true) (k : Q (some (kq_L (kg_nar (kq_rI μ r 8 0) v))) μ) : kq_Call d km_S_lowestBits [kq_R r 8, kq_L v] μ Q := by
  unfold kg_nar at k
  refine ke_S_lowestBits ?_
  refine ks_S_lowestBits_0 <| ks_S_lowestBits_1 (by first | rfl | assumption) <| ks_S_lowestBits_4 <| ks_S_lowestBits_6 (fun h6 => ?_) (fun h6 => ?_)
  · rw [if_neg h6] at k
    refine ks_S_lowestBits_16 <| ks_S_lowestBits_17 (by first | rfl | assumption) <| ks_S_lowestBits_20 <| ks_S_lowestBits_22 (fun h22 => ?_) (fun h22 => ?_)
    · rw [if_neg h22] at k
      refine ks_S_lowestBits_32 <| ks_S_lowestBits_33 ?_
      exact k
    · rw [if_pos h22] at k
      refine ks_S_lowestBits_25 <| ks_S_lowestBits_26 <| ks_S_lowestBits_27 <| ks_S_lowestBits_28 <| ks_S_lowestBits_29 <| ks_S_lowestBits_33 ?_
      exact k
  · rw [if_pos h6] at k
    refine ks_S_lowestBits_9 <| ks_S_lowestBits_10 <| ks_S_lowestBits_11 <| ks_S_lowestBits_12 <| ks_S_lowestBits_13 <| ks_S_lowestBits_33 ?_
    exact k
theorem kt_S_hasStretch {L : Nat} {f : Int32} (hr : Nat.blt r 4 = true) (hl : kq_rI μ r 8 1 = nI L) (k : Q (some (kq_I (kq_b (kg_str L f n)))) μ) : kq_Call d km_S_hasStretch [kq_R r 8, kq_I f, kq_I n] μ Q := by
  have no : ¬ (0 ≤ f ∧ 0 ≤ n ∧ n ≤ nI L ∧ f ≤ nI L - n) → kq_S km_S_hasStretch d 30 [some (kq_R r 8), some (kq_I f), some (kq_I n)] [] μ Q := by
    intro h
    rw [show kg_str L f n = false from decide_eq_false h] at k
    refine ks_S_hasStretch_30 <| ks_S_hasStretch_31 (by first | exact kq_b01' _ | exact Or.inl rfl | exact Or.inr rfl | assumption) ?_
    exact k
  refine ke_S_hasStretch ?_
  refine ks_S_hasStretch_0 <| ks_S_hasStretch_1 (fun h1 => ?_) (fun h1 => ?_)
  · exact no (fun q => by rw [ki_lt] at h1; have := q.1; rw [ki_le] at this; omega)
  · refine ks_S_hasStretch_4 <| ks_S_hasStretch_5 (fun h5 => ?_) (fun h5 => ?_)
    · exact no (fun q => by rw [ki_lt] at h5; have := q.2.1; rw [ki_le] at this; omega)
    · refine ks_S_hasStretch_8 <| ks_S_hasStretch_9 <| ks_S_hasStretch_10 (by first | rfl | assumption) <| ks_S_hasStretch_13 (fun h13 => ?_) (fun h13 => ?_)
      · rw [hl] at h13
        exact no (fun q => by rw [ki_lt] at h13; have := q.2.2.1; rw [ki_le] at this; omega)
      · refine ks_S_hasStretch_16 <| ks_S_hasStretch_17 <| ks_S_hasStretch_18 (by first | rfl | assumption) <| ks_S_hasStretch_21 <| ks_S_hasStretch_22 <| ks_S_hasStretch_23 (fun h23 => ?_) (fun h23 => ?_)
        · rw [hl] at h23
          exact no (fun q => by rw [ki_lt] at h23; have := q.2.2.2; rw [ki_le] at this; omega)
        · rw [hl] at h13 h23
          refine ks_S_hasStretch_26 <| ks_S_hasStretch_27 <| ks_S_hasStretch_31 (by first | exact kq_b01' _ | exact Or.inl rfl | exact Or.inr rfl | assumption) ?_
          rw [show kg_str L f n = true from decide_eq_true ⟨by rw [ki_le]; rw [ki_lt] at h1; omega, by rw [ki_le]; rw [ki_lt] at h5; omega, by rw [ki_le]; rw [ki_lt] at h13; omega, by rw [ki_le]; rw [ki_lt] at h23; omega⟩] at k
          exact k
end KT7
theorem kb4 {j : Nat} (h : j < 4) : Nat.blt j 4 = true := Nat.ble_eq_true_of_le h
theorem ko_K_sheet (hz : kz_ok z) : kK_ct km_K_sheet [kq_I s, kq_I b, kq_I n] z (sp_sheet z s b n).2 (kq_I (sp_sheet z s b n).1) := by
  intro μ Q ha k
  have bad : ¬ (0 ≤ s ∧ s < 4) ∨ ¬ (b = 0 ∨ b = 8 ∨ b = 16 ∨ b = 64) → kq_S km_K_sheet 11 29 [some (kq_R 0 0), some (kq_I s), some (kq_I b), some (kq_I n)] [] μ Q := by
    intro h
    rw [show sp_sheet z s b n = kz_F z 0 from if_pos h] at k
    refine ks_K_sheet_29 <| ks_K_sheet_30 <| ks_K_sheet_31 (Nat.le_of_ble_eq_true rfl) ?_
    refine kt_K_fin 0 ha (by decide) (fun μ' a1 f1 => ?_)
    refine ks_K_sheet_34 ?_
    exact k μ' a1 f1
  have main : (0 ≤ s ∧ s < 4) → (b = 0 ∨ b = 8 ∨ b = 16 ∨ b = 64) → kq_S km_K_sheet 11 35 [some (kq_R 0 0), some (kq_I s), some (kq_I b), some (kq_I n)] [] μ Q := by
    intro hs hb
    have e0 : sp_sheet z s b n = _ := if_neg (fun q => q.elim (fun y => y hs) (fun y => y hb))
    refine ks_K_sheet_35 <| ks_K_sheet_36 (fun h36 => ?_) (fun h36 => ?_)
    · rw [if_neg (by rw [ki_lt]; rw [ki_le] at h36; omega)] at e0
      refine ks_K_sheet_46 <| ks_K_sheet_47 <| ks_K_sheet_49 (fun h49 => ?_) (fun h49 => ?_)
      · rw [if_neg (by rw [ki_lt]; rw [ki_le] at h49; omega)] at e0
        obtain ⟨j, hj, rfl⟩ := kh_ix (c := 4) (by decide) hs
        obtain ⟨m, hm, rfl⟩ := kn_of_le (c := 40) (by decide) (by decide) ⟨h36, h49⟩
        rw [ki_0] at hm
        rw [kh_nat_nI (show j < 2 ^ 31 by omega), kh_nat_nI (show m < 2 ^ 31 by omega)] at e0
        rw [e0] at k
        have hb4 := kb4 hj
        refine ks_K_sheet_58 <| ks_K_sheet_59 <| ks_K_sheet_62 <| ks_K_sheet_63n (by omega) <| ks_K_sheet_64 <| ks_K_sheet_65 <| ks_K_sheet_66 (by first | rfl | assumption) (Nat.le_of_ble_eq_true rfl) ?_
        refine kt_S_layOut hb4 (fun μ1 f1 e1 e2 e3 => ?_)
        have e2' : kq_rI μ1 j 8 1 = nI (if b = 0 then 0 else m) := by
          rw [e2]
          split <;> rfl
        have f2 : kq_fr kK_PS μ μ1 := f1.mono (fun x y q => by rcases q.2 with e | e; exact Or.inl e; exact Or.inr (Or.inl e))
        refine ks_K_sheet_69 <| ks_K_sheet_70 <| ks_K_sheet_73 <| ks_K_sheet_74n (by omega) <| ks_K_sheet_75 (by first | rfl | assumption) <| ks_K_sheet_78 ?_
        rw [e2']
        refine k μ1 (ha.sheets f2 (fun q hq => ?_) (fun q hq => ?_) (fun q hq y hy => ?_)) (kK_frS f2)
        · unfold kh_up
          by_cases e : q = j
          · rw [if_pos e, e]; exact e1
          · rw [if_neg e, f1.1 _ _ _ (fun y => e y.1)]; exact ha.B q hq
        · unfold va_up
          by_cases e : q = j
          · rw [if_pos e, e]; exact e2'
          · rw [if_neg e, f1.1 _ _ _ (fun y => e y.1)]; exact ha.L q hq
        · unfold va_up
          by_cases e : q = j
          · rw [if_pos e, e]; exact e3 y hy
          · rw [if_neg e, f1.2.1 _ _ _ (fun y => e y.1)]; exact ha.N q hq y hy
      · rw [if_pos (by rw [ki_lt]; rw [ki_le] at h49; omega)] at e0
        rw [e0] at k
        refine ks_K_sheet_52 <| ks_K_sheet_53 <| ks_K_sheet_54 (Nat.le_of_ble_eq_true rfl) ?_
        refine kt_K_fin 0 ha (by decide) (fun μ' a1 f1 => ?_)
        refine ks_K_sheet_57 ?_
        exact k μ' a1 f1
    · rw [if_pos (by rw [ki_lt]; rw [ki_le] at h36; omega)] at e0
      rw [e0] at k
      refine ks_K_sheet_39 <| ks_K_sheet_40 <| ks_K_sheet_42 (Nat.le_of_ble_eq_true rfl) ?_
      refine kt_K_fin 6 ha (by decide) (fun μ' a1 f1 => ?_)
      refine ks_K_sheet_45 ?_
      exact k μ' a1 f1
  refine ke_K_sheet ?_
  refine ks_K_sheet_0 <| ks_K_sheet_1 (Nat.le_of_ble_eq_true rfl) ?_
  refine kt_K_isSheet ?_
  refine ks_K_sheet_4 (fun h4 => ?_) (fun h4 => ?_)
  · exact bad (Or.inl (of_decide_eq_false (kq_b_f h4)))
  · have hs := of_decide_eq_true (kq_b_t h4)
    refine ks_K_sheet_7 <| ks_K_sheet_8 (fun h8 => ?_) (fun h8 => ?_)
    · exact main hs (Or.inl h8)
    · refine ks_K_sheet_11 <| ks_K_sheet_12 <| ks_K_sheet_14 (fun h14 => ?_) (fun h14 => ?_)
      · exact main hs (Or.inr (Or.inl h14))
      · refine ks_K_sheet_17 <| ks_K_sheet_18 <| ks_K_sheet_20 (fun h20 => ?_) (fun h20 => ?_)
        · exact main hs (Or.inr (Or.inr (Or.inl h20)))
        · refine ks_K_sheet_23 <| ks_K_sheet_24 <| ks_K_sheet_26 (fun h26 => ?_) (fun h26 => ?_)
          · exact main hs (Or.inr (Or.inr (Or.inr h26)))
          · exact bad (Or.inr (fun q => by rcases q with e | e | e | e; exact h8 e; exact h14 e; exact h20 e; exact h26 e))
theorem ko_K_write {v : Int64} (hz : kz_ok z) : kK_ct km_K_write [kq_I s, kq_I i, kq_L v] z (sp_write z s i v).2 (kq_L (sp_write z s i v).1) := by
  intro μ Q ha k
  refine ke_K_write ?_
  refine ks_K_write_0 <| ks_K_write_1 (Nat.le_of_ble_eq_true rfl) ?_
  refine kt_K_isSheet ?_
  refine ks_K_write_4 (fun h4 => ?_) (fun h4 => ?_)
  · have hs := of_decide_eq_true (kq_b_t h4)
    have e0 : sp_write z s i v = _ := if_neg (fun q => q hs)
    obtain ⟨j, hj, rfl⟩ := kh_ix (c := 4) (by decide) hs
    rw [kh_nat_nI (show j < 2 ^ 31 by omega)] at e0
    have hb4 := kb4 hj
    have hL := hz.2.2.2.2 j hj
    refine ks_K_write_14 <| ks_K_write_15 <| ks_K_write_18 <| ks_K_write_19n (by omega) <| ks_K_write_20 rfl rfl <| ks_K_write_22 <| ks_K_write_24 (by first | rfl | assumption) (Nat.le_of_ble_eq_true rfl) ?_
    refine kt_S_isMissing hb4 ?_
    refine ks_K_write_27 (fun h27 => ?_) (fun h27 => ?_)
    · have h := of_decide_eq_false (kq_b_f h27)
      rw [ha.B j hj] at h
      rw [if_neg h] at e0
      refine ks_K_write_37 <| ks_K_write_38 <| ks_K_write_39 <| ks_K_write_41 (by first | rfl | assumption) <| ks_K_write_44 <| ks_K_write_45 <| ks_K_write_46 (Nat.le_of_ble_eq_true rfl) ?_
      refine kt_K_isWithin ?_
      refine ks_K_write_49 (fun h49 => ?_) (fun h49 => ?_)
      · have h2 := of_decide_eq_true (kq_b_t h49)
        rw [ha.L j hj] at h2
        have h3 : 0 ≤ i ∧ i < nI (kz_L z j) := by
          rw [ki_le, ki_le, ki_sub (by rw [nI_toInt (by omega)]; omega) (by decide), nI_toInt (by omega), ki_1] at h2
          rw [ki_le, ki_lt, nI_toInt (by omega)]
          omega
        rw [if_neg (fun q => q h3)] at e0
        obtain ⟨q, hq, rfl⟩ := kh_ix (by omega) h3
        rw [kh_nat_nI (show q < 2 ^ 31 by omega)] at e0
        rw [e0] at k
        refine ks_K_write_59 <| ks_K_write_61 (by first | rfl | assumption) <| ks_K_write_64 <| ks_K_write_65n (by first | rfl | assumption) (by omega) <| ks_K_write_66 rfl <| ks_K_write_68 <| ks_K_write_70 (by first | rfl | assumption) <| ks_K_write_73 <| ks_K_write_74 <| ks_K_write_76 <| ks_K_write_77 (by first | rfl | assumption) (Nat.le_of_ble_eq_true rfl) ?_
        refine kt_S_lowestBits hb4 ?_
        refine ks_K_write_80n (by first | rfl | assumption) (by omega) <| ks_K_write_81 <| ks_K_write_83 ?_
        have f1 : kq_fr kK_PS μ (kq_wL μ j 9 q (kg_nar (kq_rI μ j 8 0) v)) := kq_fr.rf.wL (Or.inr (Or.inl rfl))
        rw [ha.N j hj q (by omega)]
        refine k _ (ha.sheets f1 ha.B ha.L (fun x hx y hy => ?_)) (kK_frS f1)
        rw [kq_rL_wL, ha.B j hj]
        unfold va_up
        by_cases e : x = j
        · rw [if_pos e]
          by_cases e2 : y = q
          · rw [if_pos e2, if_pos ⟨e, rfl, e2⟩]
          · rw [if_neg e2, if_neg (fun t => e2 t.2.2), e]
            exact ha.N j hj y hy
        · rw [if_neg e, if_neg (fun t => e t.1)]
          exact ha.N x hx y hy
      · have h2 := of_decide_eq_false (kq_b_f h49)
        rw [ha.L j hj] at h2
        have h3 : ¬ (0 ≤ i ∧ i < nI (kz_L z j)) := by
          rw [ki_le, ki_le, ki_sub (by rw [nI_toInt (by omega)]; omega) (by decide), nI_toInt (by omega), ki_1] at h2
          rw [ki_le, ki_lt, nI_toInt (by omega)]
          omega
        rw [if_pos h3] at e0
        rw [e0] at k
        refine ks_K_write_52 <| ks_K_write_53 <| ks_K_write_54 (Nat.le_of_ble_eq_true rfl) ?_
        refine kt_K_fin 0 ha (by decide) (fun μ' a1 f1 => ?_)
        refine ks_K_write_57 <| ks_K_write_58 ?_
        exact k μ' a1 f1
    · have h := of_decide_eq_true (kq_b_t h27)
      rw [ha.B j hj] at h
      rw [if_pos h] at e0
      rw [e0] at k
      refine ks_K_write_30 <| ks_K_write_31 <| ks_K_write_32 (Nat.le_of_ble_eq_true rfl) ?_
      refine kt_K_fin 5 ha (by decide) (fun μ' a1 f1 => ?_)
      refine ks_K_write_35 <| ks_K_write_36 ?_
      exact k μ' a1 f1
  · rw [show sp_write z s i v = kz_F64 z 0 from if_pos (of_decide_eq_false (kq_b_f h4))] at k
    refine ks_K_write_7 <| ks_K_write_8 <| ks_K_write_9 (Nat.le_of_ble_eq_true rfl) ?_
    refine kt_K_fin 0 ha (by decide) (fun μ' a1 f1 => ?_)
    refine ks_K_write_12 <| ks_K_write_13 ?_
    exact k μ' a1 f1
end KO5
