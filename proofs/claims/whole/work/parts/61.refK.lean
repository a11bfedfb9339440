/-! THE REFERENCE: its calls (8): sheets -/
def kM_PS : Nat → Nat → Prop := fun a b => a = 0 ∧ (b = 26 ∨ b = 27 ∨ b = 28 ∨ b = 29)
section KM11
variable {z : kz_S} {w a x n s f b i : Int32}
theorem kM_at.sheets {μ μ' : kq_M} {B : Nat → Int32} {L : Nat → Nat} {N : Nat → Nat → Int64} (h : kM_at μ z) (hf : kq_fr kM_PS μ μ') (hB : ∀ s, s < 4 → kq_rI μ' 0 26 s = B s) (hL : ∀ s, s < 4 → kq_rI μ' 0 27 s = nI (L s)) (hN : ∀ s, s < 4 → ∀ j, j < 40 → kq_rL μ' 0 28 (40 * s + j) = N s j) : kM_at μ' (kz_sets z B L N) := by
  have o : ∀ b, b ≠ 26 → b ≠ 27 → b ≠ 28 → b ≠ 29 → ¬ kM_PS 0 b := fun b h1 h2 h3 h4 q => by have := q.2; omega
  refine ⟨h.h.fr hf (o 21 (by decide) (by decide) (by decide) (by decide)), ?_, fun hb => (h.k hb).fr hf (o 30 (by decide) (by decide) (by decide) (by decide)), ?_, fun j hj => ?_, hB, hL, hN, fun k hk => ?_⟩
  · rw [hf.1 _ _ _ (o 20 (by decide) (by decide) (by decide) (by decide))]; exact h.b
  · rw [hf.1 _ _ _ (o 20 (by decide) (by decide) (by decide) (by decide))]; exact h.n
  · rw [hf.1 _ _ _ (o 25 (by decide) (by decide) (by decide) (by decide))]; exact h.t j hj
  · rw [hf.1 _ _ _ (o 22 (by decide) (by decide) (by decide) (by decide))]; exact h.f k hk
theorem kM_frS {μ μ' : kq_M} (h : kq_fr kM_PS μ μ') : kq_fr kM_P μ μ' := h.mono (fun a b q => by have := q.2; show 20 ≤ b; omega)
theorem kt_M_isSheet {d : Nat} {μ : kq_M} {Q : Option kq_V → kq_M → Prop} (k : Q (some (kq_I (kq_b (decide (0 ≤ x ∧ x < 4))))) μ) : kq_Call (d + 1) km_M_isSheet [kq_I x] μ Q := by
  refine ke_M_isSheet ?_
  refine ks_M_isSheet_0 <| ks_M_isSheet_1 <| ks_M_isSheet_2 <| ks_M_isSheet_3 (Nat.le_of_ble_eq_true rfl) ?_
  refine kt_M_in ?_
  refine ks_M_isSheet_6 (by first | exact kq_b01' _ | exact Or.inl rfl | exact Or.inr rfl | assumption) ?_
  rw [show decide (0 ≤ x ∧ x ≤ 3) = decide (0 ≤ x ∧ x < 4) from by rw [decide_eq_decide, ki_le 0, ki_le x, ki_lt, ki_3, ki_4]; omega]
  exact k
theorem kw_wr {μ : kq_M} {k c : Nat} {y : Int64} (h : c ≠ k) : kq_rL (kq_wL μ 0 28 k y) 0 28 c = kq_rL μ 0 28 c := by
  rw [kq_rL_wL, if_neg (fun q => h q.2.2)]
theorem kw_ws {μ : kq_M} {k : Nat} {y : Int64} : kq_rL (kq_wL μ 0 28 k y) 0 28 k = y := by
  rw [kq_rL_wL, if_pos ⟨rfl, rfl, rfl⟩]
theorem km_40 {j q : Nat} : 40 * nI j + nI q = nI (40 * j + q) := by
  rw [show (40 : Int32) = nI 40 from rfl, show nI 40 * nI j = nI (40 * j) from (Int32.ofNat_mul 40 _).symm, nI_add]
theorem ko_M_sheet : kM_ct km_M_sheet [kq_I s, kq_I b, kq_I n] z (sp_sheet z s b n).2 (kq_I (sp_sheet z s b n).1) := by
  intro μ Q ha k
  have bad : ¬ (0 ≤ s ∧ s < 4) ∨ ¬ (b = 0 ∨ b = 8 ∨ b = 16 ∨ b = 64) → kq_S km_M_sheet 11 29 [some (kq_R 0 20), some (kq_I s), some (kq_I b), some (kq_I n), none] [] μ Q := by
    intro h
    rw [show sp_sheet z s b n = kz_F z 0 from if_pos h] at k
    refine ks_M_sheet_29 <| ks_M_sheet_30 <| ks_M_sheet_32 (Nat.le_of_ble_eq_true rfl) ?_
    refine kt_M_fin 0 ha (by decide) (by decide) (fun μ' a1 f1 => ?_)
    refine ks_M_sheet_35 ?_
    exact k μ' a1 f1
  have main : (0 ≤ s ∧ s < 4) → (b = 0 ∨ b = 8 ∨ b = 16 ∨ b = 64) → kq_S km_M_sheet 11 36 [some (kq_R 0 20), some (kq_I s), some (kq_I b), some (kq_I n), none] [] μ Q := by
    intro hs hb
    have e0 : sp_sheet z s b n = _ := if_neg (fun q => q.elim (fun y => y hs) (fun y => y hb))
    refine ks_M_sheet_36 <| ks_M_sheet_37 (fun h37 => ?_) (fun h37 => ?_)
    · rw [if_neg (by rw [ki_lt]; rw [ki_le] at h37; omega)] at e0
      refine ks_M_sheet_47 <| ks_M_sheet_48 <| ks_M_sheet_50 (fun h50 => ?_) (fun h50 => ?_)
      · rw [if_neg (by rw [ki_lt]; rw [ki_le] at h50; omega)] at e0
        obtain ⟨j, hj, rfl⟩ := kh_ix (c := 4) (by decide) hs
        obtain ⟨m, hm, rfl⟩ := kn_of_le (c := 40) (by decide) (by decide) ⟨h37, h50⟩
        rw [ki_0] at hm
        rw [kh_nat_nI (show j < 2 ^ 31 by omega), kh_nat_nI (show m < 2 ^ 31 by omega)] at e0
        rw [e0] at k
        have loop : ∀ (q i : Nat) (μ1 : kq_M), i + q = 40 → kq_fr kM_PS μ μ1 → (∀ y, y < 4 → kq_rI μ1 0 26 y = kh_up (kz_B z) j b y) → (∀ y, y < 4 → kq_rI μ1 0 27 y = nI (va_up (kz_L z) j (if b = 0 then 0 else m) y)) → (∀ y, y < 4 → ∀ c, c < 40 → kq_rL μ1 0 28 (40 * y + c) = if y = j ∧ c < i then 0 else kz_N z y c) → kq_S km_M_sheet 11 85 [some (kq_R 0 20), some (kq_I (nI j)), some (kq_I b), some (kq_I (nI m)), some (kq_I (nI i))] [] μ1 Q := by
          intro q
          induction q with
          | zero =>
            intro i μ1 hi f1 e1 e2 e3
            refine ks_M_sheet_85 <| ks_M_sheet_87 <| ks_M_sheet_89 (fun h89 => ?_) (fun h89 => ?_)
            · refine ks_M_sheet_111 <| ks_M_sheet_112 <| ks_M_sheet_115 <| ks_M_sheet_116n (by omega) <| ks_M_sheet_117 ?_
              rw [e2 j hj, va_up_self]
              refine k μ1 (ha.sheets f1 e1 e2 (fun y hy c hc => ?_)) (kM_frS f1)
              rw [e3 y hy c hc]
              unfold va_up
              by_cases e : y = j
              · rw [if_pos e, if_pos ⟨e, by omega⟩]
              · rw [if_neg e, if_neg (fun q => e q.1)]
            · rw [ki_le, ki_40, nI_toInt (by omega)] at h89
              omega
          | succ q ih =>
            intro i μ1 hi f1 e1 e2 e3
            refine ks_M_sheet_85 <| ks_M_sheet_87 <| ks_M_sheet_89 (fun h89 => ?_) (fun h89 => ?_)
            · rw [ki_le, ki_40, nI_toInt (by omega)] at h89
              omega
            · refine ks_M_sheet_92 <| ks_M_sheet_93 <| ks_M_sheet_96 <| ks_M_sheet_98 <| ks_M_sheet_99 <| ks_M_sheet_100 <| ks_M_sheet_102 <| ks_M_sheet_103 <| ks_M_sheet_104 (40 * j + i) km_40 (by omega) <| ks_M_sheet_105n rfl <| ks_M_sheet_108 ?_
              refine ih (i + 1) _ (by omega) (f1.wL ⟨rfl, Or.inr (Or.inr (Or.inl rfl))⟩) e1 e2 (fun y hy c hc => ?_)
              by_cases e : 40 * y + c = 40 * j + i
              · rw [e, kw_ws, if_pos ⟨by omega, by omega⟩]
              · rw [kw_wr e, e3 y hy c hc]
                by_cases e5 : y = j ∧ c < i
                · rw [if_pos e5, if_pos ⟨e5.1, by omega⟩]
                · rw [if_neg e5, if_neg (by omega)]
        have go : ∀ (y : Int32) (μ1 : kq_M), μ1 = kq_wI (kq_wI μ 0 26 j b) 0 27 j y → y = nI (if b = 0 then 0 else m) → kq_S km_M_sheet 11 85 [some (kq_R 0 20), some (kq_I (nI j)), some (kq_I b), some (kq_I (nI m)), some (kq_I (nI 0))] [] μ1 Q := by
          intro y μ1 em ey
          subst em
          refine loop 40 0 _ rfl ((kq_fr.rf.wI ⟨rfl, Or.inl rfl⟩).wI ⟨rfl, Or.inr (Or.inl rfl)⟩) (fun q hq => ?_) (fun q hq => ?_) (fun q hq c hc => ?_)
          · rw [kc_wr (fun q => absurd q.1 (by decide))]
            exact kc_row (ha.B q hq)
          · unfold va_up
            by_cases e : q = j
            · rw [if_pos e, e, kc_ws, ey]
            · rw [if_neg e, kc_wr (fun q => e q.2), kc_wr (fun q => absurd q.1 (by decide))]
              exact ha.L q hq
          · rw [if_neg (by omega)]
            exact ha.N q hq c hc
        refine ks_M_sheet_60 <| ks_M_sheet_61 <| ks_M_sheet_64 <| ks_M_sheet_65 <| ks_M_sheet_66n (by omega) <| ks_M_sheet_67 <| ks_M_sheet_68 <| ks_M_sheet_71 <| ks_M_sheet_72 <| ks_M_sheet_73 (fun h73 => ?_) (fun h73 => ?_)
        · refine ks_M_sheet_80 <| ks_M_sheet_81n (by omega) <| ks_M_sheet_82 <| ks_M_sheet_83 rfl ?_
          exact go _ _ rfl (by rw [if_neg h73])
        · refine ks_M_sheet_76 <| ks_M_sheet_77 <| ks_M_sheet_81n (by omega) <| ks_M_sheet_82 <| ks_M_sheet_83 rfl ?_
          exact go _ _ rfl (by rw [if_pos h73]; rfl)
      · rw [if_pos (by rw [ki_lt]; rw [ki_le] at h50; omega)] at e0
        rw [e0] at k
        refine ks_M_sheet_53 <| ks_M_sheet_54 <| ks_M_sheet_56 (Nat.le_of_ble_eq_true rfl) ?_
        refine kt_M_fin 0 ha (by decide) (by decide) (fun μ' a1 f1 => ?_)
        refine ks_M_sheet_59 ?_
        exact k μ' a1 f1
    · rw [if_pos (by rw [ki_lt]; rw [ki_le] at h37; omega)] at e0
      rw [e0] at k
      refine ks_M_sheet_40 <| ks_M_sheet_41 <| ks_M_sheet_43 (Nat.le_of_ble_eq_true rfl) ?_
      refine kt_M_fin 6 ha (by decide) (by decide) (fun μ' a1 f1 => ?_)
      refine ks_M_sheet_46 ?_
      exact k μ' a1 f1
  refine ke_M_sheet ?_
  refine ks_M_sheet_0 <| ks_M_sheet_1 (Nat.le_of_ble_eq_true rfl) ?_
  refine kt_M_isSheet ?_
  refine ks_M_sheet_4 (fun h4 => ?_) (fun h4 => ?_)
  · exact bad (Or.inl (of_decide_eq_false (kq_b_f h4)))
  · have hs := of_decide_eq_true (kq_b_t h4)
    refine ks_M_sheet_7 <| ks_M_sheet_8 (fun h8 => ?_) (fun h8 => ?_)
    · exact main hs (Or.inl h8)
    · refine ks_M_sheet_11 <| ks_M_sheet_12 <| ks_M_sheet_14 (fun h14 => ?_) (fun h14 => ?_)
      · exact main hs (Or.inr (Or.inl h14))
      · refine ks_M_sheet_17 <| ks_M_sheet_18 <| ks_M_sheet_20 (fun h20 => ?_) (fun h20 => ?_)
        · exact main hs (Or.inr (Or.inr (Or.inl h20)))
        · refine ks_M_sheet_23 <| ks_M_sheet_24 <| ks_M_sheet_26 (fun h26 => ?_) (fun h26 => ?_)
          · exact main hs (Or.inr (Or.inr (Or.inr h26)))
          · exact bad (Or.inr (fun q => by rcases q with e | e | e | e; exact h8 e; exact h14 e; exact h20 e; exact h26 e))
end KM11
