/-! THE REFERENCE's TEXT: numbers, facts -/
def kR_S (t : Nat → Int32) (n : Nat) (μ : kq_M) (T : tk_T) (g : Bool) : Prop := kR_in t n μ ∧ kR_T t μ T ∧ kq_rI μ 0 20 12 = kq_b g
def kR_f (μ μ' : kq_M) : Prop := kq_fr (fun a b => a = 0 ∧ b = 20) μ μ' ∧ ∀ k, (k < 7 ∨ 12 < k) → kq_rI μ' 0 20 k = kq_rI μ 0 20 k
section KM21
variable {d n p : Nat} {t : Nat → Int32} {T : tk_T} {g : Bool} {μ μ' : kq_M} {Q : Option kq_V → kq_M → Prop}
theorem kR_f.rf : kR_f μ μ := ⟨kq_fr.rf, fun _ _ => rfl⟩
theorem kR_f.tr {μ'' : kq_M} (h : kR_f μ μ') (h' : kR_f μ' μ'') : kR_f μ μ'' := ⟨h.1.tr h'.1, fun k hk => (h'.2 k hk).trans (h.2 k hk)⟩
theorem kR_fr.f (h : kR_fr μ μ') : kR_f μ μ' := ⟨h.1, fun k hk => h.2 k (by omega)⟩
theorem kR_S.good {b : Bool} {x : Int32} (h : kR_S t n μ T g) (hx : x = kq_b b) : kR_S t n (kq_wI μ 0 20 12 x) T b ∧ kR_f μ (kq_wI μ 0 20 12 x) := by
  have w : ∀ k, k ≠ 12 → kq_rI (kq_wI μ 0 20 12 x) 0 20 k = kq_rI μ 0 20 k := fun k hk => kc_wr (fun q => hk q.2)
  refine ⟨⟨⟨(w 6 (by decide)).trans h.1.1, fun j hj => (kc_wr (fun q => absurd q.1 (by decide))).trans (h.1.2 j hj)⟩, ⟨(w 7 (by decide)).trans h.2.1.1, (w 8 (by decide)).trans h.2.1.2.1, (w 9 (by decide)).trans h.2.1.2.2.1, h.2.1.2.2.2.1, fun q => (w 11 (by decide)).trans (h.2.1.2.2.2.2.1 q), fun q => (w 11 (by decide)).trans (h.2.1.2.2.2.2.2.1 q), fun q => by rw [w 11 (by decide)]; exact h.2.1.2.2.2.2.2.2 q⟩, kc_ws.trans hx⟩, kq_fr.rf.wI ⟨rfl, rfl⟩, fun k hk => w k (by omega)⟩
theorem kt_M_adv (hT : kC_tp t n) (hS : kR_S t n μ T g) (hf : tk_fr t n p T) (k : ∀ μ', kR_S t n μ' (tk_nx t n T) g → kR_f μ μ' → Q none μ') : kq_Call (d + 2) km_M_advance [kq_R 0 20] μ Q :=
  kt_M_advance hT hS.1 hf.ae.2.2.1 hS.2.1.2.2.1 (fun μ' i' T' f' => k μ' ⟨i', T', (f'.2 12 (by decide)).trans hS.2.2⟩ f'.f)
theorem kt_M_wantNumber {m : Nat} (hm : m < 10000) (hT : kC_tp t n) (hS : kR_S t n μ T g) (hf : tk_fr t n p T) (k1 : g = true → tk_num T m = true → ∀ μ', kR_S t n μ' (tk_nx t n T) true → kR_f μ μ' → Q (some (kq_I (nI (tk_v T)))) μ') (k2 : (g = false ∨ tk_num T m = false) → ∀ μ' x, kR_S t n μ' T false → kR_f μ μ' → Q (some (kq_I x)) μ') : kq_Call (d + 3) km_M_wantNumber [kq_R 0 20, kq_I 0, kq_I (nI m)] μ Q := by
  have ae := hf.ae
  have no : (g = false ∨ tk_num T m = false) → kq_S km_M_wantNumber (d + 3) 34 [some (kq_R 0 20), some (kq_I 0), some (kq_I (nI m)), some (kq_I (kq_rI μ 0 20 11))] [kq_R 0 20] μ Q := by
    intro h
    have G := hS.good (b := false) (x := 0) rfl
    refine ks_M_wantNumber_34 <| ks_M_wantNumber_35 (by first | exact kq_b01' _ | exact Or.inl rfl | exact Or.inr rfl | assumption) <| ks_M_wantNumber_38 <| ks_M_wantNumber_39 <| ks_M_wantNumber_42 (fun h42 => ?_) (fun h42 => ?_)
    · refine ks_M_wantNumber_49 <| ks_M_wantNumber_50 ?_
      exact k2 h _ _ G.1 G.2
    · exact absurd kc_ws h42
  refine ke_M_wantNumber ?_
  refine ks_M_wantNumber_0 <| ks_M_wantNumber_1 <| ks_M_wantNumber_4 rfl <| ks_M_wantNumber_5 <| ks_M_wantNumber_6 <| ks_M_wantNumber_7 <| ks_M_wantNumber_10 (fun h10 => ?_) (fun h10 => ?_)
  · rw [hS.2.2] at h10
    exact no (Or.inl (kq_b_f h10))
  · rw [hS.2.2] at h10
    have hg := kq_b_t h10
    refine ks_M_wantNumber_13 <| ks_M_wantNumber_14 <| ks_M_wantNumber_17 <| ks_M_wantNumber_18 (fun h18 => ?_) (fun h18 => ?_)
    · rw [hS.2.1.1, kR_so2 ae.2.2.2.2] at h18
      exact no (Or.inr (decide_eq_false (fun q => h18 q.1)))
    · rw [hS.2.1.1, kR_so2 ae.2.2.2.2] at h18
      have ev := hS.2.1.2.2.2.2.1 h18
      refine ks_M_wantNumber_21 <| ks_M_wantNumber_22 <| ks_M_wantNumber_23 <| ks_M_wantNumber_24 (Nat.le_of_ble_eq_true rfl) ?_
      refine kt_M_in ?_
      refine ks_M_wantNumber_27 (fun h27 => ?_) (fun h27 => ?_)
      · have h := of_decide_eq_false (kq_b_f h27)
        rw [ev, ki_le, ki_le, ki_0, nI_toInt (by omega), nI_toInt (by omega)] at h
        exact no (Or.inr (decide_eq_false (fun q => by have := q.2; omega)))
      · have h := of_decide_eq_true (kq_b_t h27)
        rw [ev, ki_le, ki_le, ki_0, nI_toInt (by omega), nI_toInt (by omega)] at h
        have hv : tk_v T ≤ m := by omega
        have G := hS.good (b := true) (x := 1) rfl
        refine ks_M_wantNumber_30 <| ks_M_wantNumber_31 <| ks_M_wantNumber_35 (by first | exact kq_b01' _ | exact Or.inl rfl | exact Or.inr rfl | assumption) <| ks_M_wantNumber_38 <| ks_M_wantNumber_39 <| ks_M_wantNumber_42 (fun h42 => ?_) (fun h42 => ?_)
        · exact absurd (kc_ws.symm.trans h42) (by decide)
        · refine ks_M_wantNumber_45 <| ks_M_wantNumber_46 (Nat.le_of_ble_eq_true rfl) ?_
          refine kt_M_adv hT G.1 hf (fun μ2 S2 f2 => ?_)
          refine ks_M_wantNumber_49 <| ks_M_wantNumber_50 ?_
          rw [ev, show min (tk_v T) 10000 = tk_v T by omega]
          exact k1 hg (decide_eq_true ⟨h18, hv⟩) μ2 S2 (G.2.tr f2)
end KM21
