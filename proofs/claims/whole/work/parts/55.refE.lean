/-! THE REFERENCE: its calls (2) -/
def km_sx (p o y : Nat) : Nat := if y = o then p else if y = p then o else y
section KM5
variable {z : kz_S} {w a x n s f : Int32}
theorem km_xch (g : Nat → Int32) (p o y : Nat) : kh_xch g p o y = g (km_sx p o y) := by
  unfold kh_xch km_sx
  split
  · rfl
  · split <;> rfl
theorem kt_M_swaps {d p o : Nat} {μ : kq_M} {v : kh_S} {Q : Option kq_V → kq_M → Prop} (ha : kr_at μ 21 v) (hv : kh_ok v) (hp : p < kh_c v) (ho : o < kh_c v) (hne : p ≠ o) (k : ∀ μ', kr_at μ' 21 (kh_swap v p o) → kM_m μ μ' → Q none μ') : kq_Call (d + 1) km_M_swaps [kq_R 0 20, kq_I (nI p), kq_I (nI o)] μ Q := by
  have hc8 := hv.1
  have sxl : ∀ y, y < kh_c v → km_sx p o y < kh_c v := fun y hy => by unfold km_sx; split; exact hp; split; exact ho; exact hy
  have loop : ∀ (q i : Nat) (μ1 : kq_M) (o4 : Option kq_V), i + q = 4 → kM_m μ μ1 → (∀ c, c < 7 → kq_rI μ1 0 21 c = kq_rI μ 0 21 c) → (∀ y, y < 8 → ∀ j, j < 4 → kq_rI μ1 0 21 (7 + 4 * y + j) = if j < i then kq_rI μ 0 21 (7 + 4 * km_sx p o y + j) else kq_rI μ 0 21 (7 + 4 * y + j)) → kq_S km_M_swaps (d + 1) 2 [some (kq_R 0 20), some (kq_I (nI p)), some (kq_I (nI o)), some (kq_I (nI i)), o4] [] μ1 Q := by
    intro q
    induction q with
    | zero =>
      intro i μ1 o4 hi f1 e1 e2
      refine ks_M_swaps_2 <| ks_M_swaps_3 <| ks_M_swaps_4 (fun h4 => ?_) (fun h4 => ?_)
      · refine ks_M_swaps_41 ?_
        have g : ∀ y, y < kh_c v → ∀ j, j < 4 → kq_rI μ1 0 21 (7 + 4 * y + j) = kq_rI μ 0 21 (7 + 4 * km_sx p o y + j) := fun y hy j hj => by rw [e2 y (by omega) j hj, if_pos (by omega)]
        refine k μ1 ⟨(e1 0 (by decide)).trans ha.m, (e1 1 (by decide)).trans ha.H, (e1 2 (by decide)).trans ha.W, (e1 3 (by decide)).trans ha.E, (e1 4 (by decide)).trans ha.B, (e1 5 (by decide)).trans ha.T, (e1 6 (by decide)).trans ha.c, fun y hy => ?_, fun y hy => ?_, fun y hy => ?_, fun y hy => ?_⟩ f1
        · show _ = kh_xch (kh_k v) p o y
          rw [km_xch]; exact (g y hy 0 (by decide)).trans (ha.k (sxl y hy))
        · show _ = kh_xch (kh_n v) p o y
          rw [km_xch]; exact (g y hy 1 (by decide)).trans (ha.n (sxl y hy))
        · show _ = kh_xch (kh_s v) p o y
          rw [km_xch]; exact (g y hy 2 (by decide)).trans (ha.s (sxl y hy))
        · show _ = kh_xch (kh_u v) p o y
          rw [km_xch]; exact (g y hy 3 (by decide)).trans (ha.u (sxl y hy))
      · rw [ki_le, ki_4, nI_toInt (by omega)] at h4
        omega
    | succ q ih =>
      intro i μ1 o4 hi f1 e1 e2
      refine ks_M_swaps_2 <| ks_M_swaps_3 <| ks_M_swaps_4 (fun h4 => ?_) (fun h4 => ?_)
      · rw [ki_le, ki_4, nI_toInt (by omega)] at h4
        omega
      · refine ks_M_swaps_7 <| ks_M_swaps_8 <| ks_M_swaps_9 <| ks_M_swaps_10 (Nat.le_of_ble_eq_true rfl) ?_
        refine kt_M_its (q := i) (by omega) (by omega) ?_
        refine ks_M_swaps_13 rfl <| ks_M_swaps_15 <| ks_M_swaps_16 <| ks_M_swaps_17 <| ks_M_swaps_18 <| ks_M_swaps_19 <| ks_M_swaps_20 <| ks_M_swaps_21 (Nat.le_of_ble_eq_true rfl) ?_
        refine kt_M_its (q := i) (by omega) (by omega) ?_
        refine ks_M_swaps_24 (Nat.le_of_ble_eq_true rfl) ?_
        refine kt_M_puts (q := i) (by omega) (by omega) ?_
        refine ks_M_swaps_27 <| ks_M_swaps_28 <| ks_M_swaps_29 <| ks_M_swaps_30 <| ks_M_swaps_32 (Nat.le_of_ble_eq_true rfl) ?_
        refine kt_M_puts (q := i) (by omega) (by omega) ?_
        refine ks_M_swaps_35n rfl <| ks_M_swaps_38 ?_
        refine ih (i + 1) _ _ (by omega) f1.row.row (fun c hc => ?_) (fun y hy j hj => ?_)
        · rw [kc_wr (fun q => by have := q.2; omega), kc_wr (fun q => by have := q.2; omega)]; exact e1 c hc
        · by_cases ej : j = i
          · subst ej
            rw [if_pos (by omega)]
            unfold km_sx
            by_cases eo : y = o
            · rw [if_pos eo, eo, kc_ws, e2 p (by omega) j hj, if_neg (by omega)]
            · rw [if_neg eo, kc_wr (fun q => by have := q.2; omega)]
              by_cases ep : y = p
              · rw [if_pos ep, ep, kc_ws, e2 o (by omega) j hj, if_neg (by omega)]
              · rw [if_neg ep, kc_wr (fun q => by have := q.2; omega), e2 y hy j hj, if_neg (by omega)]
          · rw [kc_wr (fun q => by have := q.2; omega), kc_wr (fun q => by have := q.2; omega), e2 y hy j hj]
            by_cases el : j < i
            · rw [if_pos el, if_pos (by omega)]
            · rw [if_neg el, if_neg (by omega)]
  refine ke_M_swaps ?_
  refine ks_M_swaps_0 <| ks_M_swaps_1 rfl ?_
  exact loop 4 0 μ none rfl kM_m.rf (fun c _ => rfl) (fun y _ j _ => by rw [if_neg (by omega)])
theorem ko_M_swap (hz : kz_ok z) : kM_ct km_M_swap [kq_I w, kq_I x] z (sp_swap z w x).2 (kq_I (sp_swap z w x).1) := by
  intro μ Q ha k
  have hv := hz.1.1
  have hc8 := hv.1
  have no : (kh_wi (kz_h z) w = false ∨ kh_wi (kz_h z) x = false ∨ w = x) → kq_S km_M_swap 11 21 [some (kq_R 0 20), some (kq_I w), some (kq_I x)] [] μ Q := by
    intro h
    rw [show sp_swap z w x = kz_F z 0 from if_pos h] at k
    refine ks_M_swap_21 <| ks_M_swap_22 <| ks_M_swap_24 (Nat.le_of_ble_eq_true rfl) ?_
    refine kt_M_fin 0 ha (by decide) (by decide) (fun μ' a1 f1 => ?_)
    refine ks_M_swap_27 ?_
    exact k μ' a1 f1
  refine ke_M_swap ?_
  refine ks_M_swap_0 <| ks_M_swap_1 <| ks_M_swap_2 (Nat.le_of_ble_eq_true rfl) ?_
  refine kt_M_isOne ha.h hv ?_
  refine ks_M_swap_5 (fun h5 => ?_) (fun h5 => ?_)
  · exact no (Or.inl (kq_b_f h5))
  · refine ks_M_swap_8 <| ks_M_swap_9 <| ks_M_swap_10 (Nat.le_of_ble_eq_true rfl) ?_
    refine kt_M_isOne ha.h hv ?_
    refine ks_M_swap_13 (fun h13 => ?_) (fun h13 => ?_)
    · exact no (Or.inr (Or.inl (kq_b_f h13)))
    · refine ks_M_swap_16 <| ks_M_swap_17 <| ks_M_swap_18 (fun h18 => ?_) (fun h18 => ?_)
      · have hw := kq_b_t h5
        have hx := kq_b_t h13
        have e0 : sp_swap z w x = _ := if_neg (fun q => by rcases q with y | y | y; rw [hw] at y; exact absurd y (by decide); rw [hx] at y; exact absurd y (by decide); exact h18 y)
        obtain ⟨j, hj, rfl⟩ := kh_wi_ix hv hw
        obtain ⟨l, hl, rfl⟩ := kh_wi_ix hv hx
        rw [kh_nat_nI (show j < 2 ^ 31 by omega), kh_nat_nI (show l < 2 ^ 31 by omega)] at e0
        rw [e0] at k
        refine ks_M_swap_28 <| ks_M_swap_29 <| ks_M_swap_30 <| ks_M_swap_31 (Nat.le_of_ble_eq_true rfl) ?_
        refine kt_M_swaps ha.h hv hj hl (fun q => h18 (by rw [q])) (fun μ1 a1 f1 => ?_)
        refine ks_M_swap_34 <| ks_M_swap_35 ?_
        exact k _ (ha.hall a1 f1.h) f1.h.P
      · exact no (Or.inr (Or.inr h18))
theorem ko_M_of (hz : kz_ok z) : kM_ct km_M_of [kq_I w, kq_I a] z (sp_of z w a).2 (kq_I (sp_of z w a).1) := by
  intro μ Q ha k
  have hv := hz.1.1
  have hc8 := hv.1
  have no : sp_of z w a = kz_F z 0 → kq_S km_M_of 11 18 [some (kq_R 0 20), some (kq_I w), some (kq_I a)] [] μ Q := by
    intro h
    rw [h] at k
    refine ks_M_of_18 <| ks_M_of_19 <| ks_M_of_21 (Nat.le_of_ble_eq_true rfl) ?_
    refine kt_M_fin 0 ha (by decide) (by decide) (fun μ' a1 f1 => ?_)
    refine ks_M_of_24 ?_
    exact k μ' a1 f1
  refine ke_M_of ?_
  refine ks_M_of_0 <| ks_M_of_1 <| ks_M_of_2 (Nat.le_of_ble_eq_true rfl) ?_
  refine kt_M_isOne ha.h hv ?_
  refine ks_M_of_5 (fun h5 => ?_) (fun h5 => ?_)
  · exact no (if_pos (kq_b_f h5))
  · have hw := kq_b_t h5
    have e0 : sp_of z w a = _ := if_neg (by rw [hw]; decide)
    obtain ⟨j, hj, rfl⟩ := kh_wi_ix hv hw
    rw [kh_nat_nI (show j < 2 ^ 31 by omega)] at e0
    refine ks_M_of_8 <| ks_M_of_9 <| ks_M_of_10 <| ks_M_of_12 (Nat.le_of_ble_eq_true rfl) ?_
    refine kt_M_in ?_
    refine ks_M_of_15 (fun h15 => ?_) (fun h15 => ?_)
    · have hq := of_decide_eq_true (kq_b_t h15)
      rw [ki_le, ki_le, ki_0, ki_7] at hq
      refine ks_M_of_25 <| ks_M_of_26 (fun h26 => ?_) (fun h26 => ?_) (fun h26 => ?_) (fun h26 => ?_) (fun h26 => ?_)
      · subst h26
        rw [e0, if_neg (by decide), if_neg (by decide), if_neg (by decide), if_neg (by decide), if_pos rfl] at k
        refine ks_M_of_56 <| ks_M_of_57 <| ks_M_of_58 (Nat.le_of_ble_eq_true rfl) ?_
        refine kt_M_lies ha.h hv hj ?_
        refine ks_M_of_61 ?_
        exact k _ ha kq_fr.rf
      · subst h26
        rw [e0, if_neg (by decide), if_neg (by decide), if_neg (by decide), if_neg (by decide), if_neg (by decide), if_pos rfl] at k
        refine ks_M_of_62 <| ks_M_of_63 <| ks_M_of_64 (Nat.le_of_ble_eq_true rfl) ?_
        refine kt_M_lucky ha.h hv hj ?_
        refine ks_M_of_67 ?_
        exact k _ ha kq_fr.rf
      · subst h26
        rw [e0, if_neg (by decide), if_neg (by decide), if_neg (by decide), if_neg (by decide), if_neg (by decide), if_neg (by decide), if_pos rfl] at k
        refine ks_M_of_68 <| ks_M_of_69 <| ks_M_of_70 (Nat.le_of_ble_eq_true rfl) ?_
        refine kt_M_wrong ha.h hv hj ?_
        refine ks_M_of_73 ?_
        exact k _ ha kq_fr.rf
      · subst h26
        rw [e0, if_neg (by decide), if_neg (by decide), if_neg (by decide), if_neg (by decide), if_neg (by decide), if_neg (by decide), if_neg (by decide), if_pos rfl] at k
        refine ks_M_of_74 <| ks_M_of_75 <| ks_M_of_76 (Nat.le_of_ble_eq_true rfl) ?_
        refine kt_M_doubting ha.h hv hj ?_
        refine ks_M_of_79 ?_
        exact k _ ha kq_fr.rf
      · have h4 : a.toInt < 4 := by omega
        rcases (show a.toInt = 0 ∨ a.toInt = 1 ∨ a.toInt = 2 ∨ a.toInt = 3 by omega) with h | h | h | h
        · obtain rfl : a = 0 := (ki_eq _ _).mpr h
          rw [e0, if_pos rfl] at k
          refine ks_M_of_80 <| ks_M_of_81 <| ks_M_of_82 <| ks_M_of_83 (Nat.le_of_ble_eq_true rfl) ?_
          refine kt_M_its0 ha.h hv hj ?_
          refine ks_M_of_86 ?_
          exact k _ ha kq_fr.rf
        · obtain rfl : a = 1 := (ki_eq _ _).mpr h
          rw [e0, if_neg (by decide), if_pos rfl] at k
          refine ks_M_of_80 <| ks_M_of_81 <| ks_M_of_82 <| ks_M_of_83 (Nat.le_of_ble_eq_true rfl) ?_
          refine kt_M_its1 ha.h hv hj ?_
          refine ks_M_of_86 ?_
          exact k _ ha kq_fr.rf
        · obtain rfl : a = 2 := (ki_eq _ _).mpr h
          rw [e0, if_neg (by decide), if_neg (by decide), if_pos rfl] at k
          refine ks_M_of_80 <| ks_M_of_81 <| ks_M_of_82 <| ks_M_of_83 (Nat.le_of_ble_eq_true rfl) ?_
          refine kt_M_its2 ha.h hv hj ?_
          refine ks_M_of_86 ?_
          exact k _ ha kq_fr.rf
        · obtain rfl : a = 3 := (ki_eq _ _).mpr h
          rw [e0, if_neg (by decide), if_neg (by decide), if_neg (by decide), if_pos rfl] at k
          refine ks_M_of_80 <| ks_M_of_81 <| ks_M_of_82 <| ks_M_of_83 (Nat.le_of_ble_eq_true rfl) ?_
          refine kt_M_its3 ha.h hv hj ?_
          refine ks_M_of_86 ?_
          exact k _ ha kq_fr.rf
    · have hq := of_decide_eq_false (kq_b_f h15)
      rw [ki_le, ki_le, ki_0, ki_7] at hq
      have nn : ∀ y : Int32, 0 ≤ y.toInt → y.toInt ≤ 7 → ¬ a = y := fun y h2 h3 q => by rw [q] at hq; omega
      refine no ?_
      rw [e0, if_neg (nn 0 (by decide) (by decide)), if_neg (nn 1 (by decide) (by decide)), if_neg (nn 2 (by decide) (by decide)), if_neg (nn 3 (by decide) (by decide)), if_neg (nn 4 (by decide) (by decide)), if_neg (nn 5 (by decide) (by decide)), if_neg (nn 6 (by decide) (by decide)), if_neg (nn 7 (by decide) (by decide))]
theorem km_under : ∀ a, a < 6 → ∀ b, b < 6 → kh_under (nI a) (nI b) = decide (b = 0 ∨ b = a ∨ (b = 1 ∧ a = 4) ∨ (b = 2 ∧ a = 5)) := by decide
theorem ko_M_as (hz : kz_ok z) : kM_ct km_M_as [kq_I w, kq_I x] z (sp_as z w x).2 (kq_I (sp_as z w x).1) := by
  intro μ Q ha k
  have hv := hz.1.1
  have hc8 := hv.1
  have no : (kh_wi (kz_h z) w = false ∨ ¬ (0 ≤ x ∧ x < 6)) → ∀ o o', kq_S km_M_as 11 15 [some (kq_R 0 20), some (kq_I w), some (kq_I x), o, o'] [] μ Q := by
    intro h o o'
    rw [show sp_as z w x = kz_F z 0 from if_pos h] at k
    refine ks_M_as_15 <| ks_M_as_16 <| ks_M_as_18 (Nat.le_of_ble_eq_true rfl) ?_
    refine kt_M_fin 0 ha (by decide) (by decide) (fun μ' a1 f1 => ?_)
    refine ks_M_as_21 ?_
    exact k μ' a1 f1
  refine ke_M_as ?_
  refine ks_M_as_0 <| ks_M_as_1 <| ks_M_as_2 (Nat.le_of_ble_eq_true rfl) ?_
  refine kt_M_isOne ha.h hv ?_
  refine ks_M_as_5 (fun h5 => ?_) (fun h5 => ?_)
  · exact no (Or.inl (kq_b_f h5)) none none
  · refine ks_M_as_8 <| ks_M_as_9 (Nat.le_of_ble_eq_true rfl) ?_
    refine kt_M_isKind ?_
    refine ks_M_as_12 (fun h12 => ?_) (fun h12 => ?_)
    · have hw := kq_b_t h5
      have hx := of_decide_eq_true (kq_b_t h12)
      have e0 : sp_as z w x = _ := if_neg (fun q => q.elim (fun y => by rw [hw] at y; exact absurd y (by decide)) (fun y => y hx))
      obtain ⟨j, hj, rfl⟩ := kh_wi_ix hv hw
      obtain ⟨b, hb, rfl⟩ := kh_ix (c := 6) (by decide) hx
      rw [kh_nat_nI (show j < 2 ^ 31 by omega)] at e0
      refine ks_M_as_22 <| ks_M_as_23 <| ks_M_as_24 <| ks_M_as_25 (Nat.le_of_ble_eq_true rfl) ?_
      refine kt_M_its0 ha.h hv hj ?_
      obtain ⟨c, hc, ek⟩ := kh_in_nI (n := 5) (hv.2.2.2.2.2.2.2.1 j hj) (by decide)
      rw [ek] at e0 ⊢
      rw [km_under c (by omega) b hb] at e0
      have ee : ∀ y u : Nat, y < 6 → u < 6 → (nI y = nI u ↔ y = u) := fun y u h1 h2 => ⟨fun q => by rw [ki_eq, nI_toInt (by omega), nI_toInt (by omega)] at q; omega, fun q => by rw [q]⟩
      have yes : (b = 0 ∨ b = c ∨ (b = 1 ∧ c = 4) ∨ (b = 2 ∧ c = 5)) → ∀ o, kq_S km_M_as 11 58 [some (kq_R 0 20), some (kq_I (nI j)), some (kq_I (nI b)), some (kq_I (nI c)), o] [] μ Q := by
        intro h o
        rw [decide_eq_true h, if_neg (by decide)] at e0
        rw [e0] at k
        refine ks_M_as_58 <| ks_M_as_59 <| ks_M_as_63 rfl <| ks_M_as_65 <| ks_M_as_67 (fun h67 => ?_) (fun h67 => ?_)
        · exact absurd h67 (by decide)
        · refine ks_M_as_70 <| ks_M_as_71 <| ks_M_as_72 <| ks_M_as_73 (Nat.le_of_ble_eq_true rfl) ?_
          refine kt_M_its3 ha.h hv hj ?_
          refine ks_M_as_76 <| ks_M_as_85 ?_
          exact k _ ha kq_fr.rf
      have nay : ¬ (b = 0 ∨ b = c ∨ (b = 1 ∧ c = 4) ∨ (b = 2 ∧ c = 5)) → ∀ o, kq_S km_M_as 11 62 [some (kq_R 0 20), some (kq_I (nI j)), some (kq_I (nI b)), some (kq_I (nI c)), o] [] μ Q := by
        intro h o
        rw [decide_eq_false h, if_pos rfl] at e0
        rw [e0] at k
        refine ks_M_as_62 <| ks_M_as_63 rfl <| ks_M_as_65 <| ks_M_as_67 (fun h67 => ?_) (fun h67 => ?_)
        · refine ks_M_as_79 <| ks_M_as_80 <| ks_M_as_82 (Nat.le_of_ble_eq_true rfl) ?_
          refine kt_M_fin 2 ha (by decide) (by decide) (fun μ' a1 f1 => ?_)
          refine ks_M_as_85 ?_
          exact k μ' a1 f1
        · exact absurd rfl h67
      have last : ¬ b = 0 → ¬ b = c → ¬ (b = 1 ∧ c = 4) → ∀ o, kq_S km_M_as 11 48 [some (kq_R 0 20), some (kq_I (nI j)), some (kq_I (nI b)), some (kq_I (nI c)), o] [] μ Q := by
        intro g1 g2 g3 o
        refine ks_M_as_48 <| ks_M_as_49 <| ks_M_as_50 (fun h50 => ?_) (fun h50 => ?_)
        · have : ¬ b = 2 := fun q => h50 ((ee b 2 hb (by decide)).mpr q)
          exact nay (by omega) o
        · have h2 := (ee b 2 hb (by decide)).mp h50
          refine ks_M_as_53 <| ks_M_as_54 <| ks_M_as_55 (fun h55 => ?_) (fun h55 => ?_)
          · have : ¬ c = 5 := fun q => h55 ((ee c 5 (by omega) (by decide)).mpr q)
            exact nay (by omega) o
          · have h5' := (ee c 5 (by omega) (by decide)).mp h55
            exact yes (by omega) o
      refine ks_M_as_28 rfl <| ks_M_as_29 <| ks_M_as_30 (fun h30 => ?_) (fun h30 => ?_)
      · exact yes (Or.inl ((ee b 0 hb (by decide)).mp h30)) none
      · have g1 : ¬ b = 0 := fun q => h30 ((ee b 0 hb (by decide)).mpr q)
        refine ks_M_as_33 <| ks_M_as_34 <| ks_M_as_35 (fun h35 => ?_) (fun h35 => ?_)
        · exact yes (Or.inr (Or.inl ((ee b c hb (by omega)).mp h35))) none
        · have g2 : ¬ b = c := fun q => h35 ((ee b c hb (by omega)).mpr q)
          refine ks_M_as_38 <| ks_M_as_39 <| ks_M_as_40 (fun h40 => ?_) (fun h40 => ?_)
          · have g3 : ¬ b = 1 := fun q => h40 ((ee b 1 hb (by decide)).mpr q)
            exact last g1 g2 (by omega) none
          · have g3 := (ee b 1 hb (by decide)).mp h40
            refine ks_M_as_43 <| ks_M_as_44 <| ks_M_as_45 (fun h45 => ?_) (fun h45 => ?_)
            · exact yes (Or.inr (Or.inr (Or.inl ⟨g3, (ee c 4 (by omega) (by decide)).mp h45⟩))) none
            · have g4 : ¬ c = 4 := fun q => h45 ((ee c 4 (by omega) (by decide)).mpr q)
              exact last g1 g2 (by omega) none
    · exact no (Or.inr (of_decide_eq_false (kq_b_f h12))) none none
theorem ko_M_now (hz : kz_ok z) : kM_ct km_M_now [kq_I a] z (sp_now z a).2 (kq_I (sp_now z a).1) := by
  intro μ Q ha k
  have hv := hz.1.1
  refine ke_M_now ?_
  refine ks_M_now_0 <| ks_M_now_1 <| ks_M_now_2 <| ks_M_now_4 (Nat.le_of_ble_eq_true rfl) ?_
  refine kt_M_in ?_
  refine ks_M_now_7 (fun h7 => ?_) (fun h7 => ?_)
  · have hq := of_decide_eq_true (kq_b_t h7)
    obtain ⟨j, hj, rfl⟩ := kn_of_le (c := 7) (by decide) (by decide) hq
    unfold sp_now at k
    rcases (show j = 0 ∨ j = 1 ∨ j = 2 ∨ j = 3 ∨ j = 4 ∨ j = 5 ∨ j = 6 ∨ j = 7 by have := hj.2; omega) with rfl | rfl | rfl | rfl | rfl | rfl | rfl | rfl
    · rw [if_pos (by decide)] at k
      refine ks_M_now_17 <| ks_M_now_18 <| ks_M_now_19 (fun h19 => ?_) (fun h19 => ?_)
      · exact absurd h19 (by decide)
      · refine ks_M_now_22 <| ks_M_now_23 <| ks_M_now_26 <| ks_M_now_27n (by omega) <| ks_M_now_28 <| ks_M_now_62 ?_
        rw [ha.h.m]
        exact k _ ha kq_fr.rf
    · rw [if_neg (by decide), if_pos (by decide)] at k
      refine ks_M_now_17 <| ks_M_now_18 <| ks_M_now_19 (fun h19 => ?_) (fun h19 => ?_)
      · exact absurd h19 (by decide)
      · refine ks_M_now_22 <| ks_M_now_23 <| ks_M_now_26 <| ks_M_now_27n (by omega) <| ks_M_now_28 <| ks_M_now_62 ?_
        rw [ha.h.H]
        exact k _ ha kq_fr.rf
    · rw [if_neg (by decide), if_neg (by decide), if_pos (by decide)] at k
      refine ks_M_now_17 <| ks_M_now_18 <| ks_M_now_19 (fun h19 => ?_) (fun h19 => ?_)
      · exact absurd h19 (by decide)
      · refine ks_M_now_22 <| ks_M_now_23 <| ks_M_now_26 <| ks_M_now_27n (by omega) <| ks_M_now_28 <| ks_M_now_62 ?_
        rw [ha.h.W]
        exact k _ ha kq_fr.rf
    · rw [if_neg (by decide), if_neg (by decide), if_neg (by decide), if_pos (by decide)] at k
      refine ks_M_now_17 <| ks_M_now_18 <| ks_M_now_19 (fun h19 => ?_) (fun h19 => ?_)
      · exact absurd h19 (by decide)
      · refine ks_M_now_22 <| ks_M_now_23 <| ks_M_now_26 <| ks_M_now_27n (by omega) <| ks_M_now_28 <| ks_M_now_62 ?_
        rw [ha.h.E]
        exact k _ ha kq_fr.rf
    · rw [if_neg (by decide), if_neg (by decide), if_neg (by decide), if_neg (by decide), if_pos (by decide)] at k
      refine ks_M_now_17 <| ks_M_now_18 <| ks_M_now_19 (fun h19 => ?_) (fun h19 => ?_)
      · exact absurd h19 (by decide)
      · refine ks_M_now_22 <| ks_M_now_23 <| ks_M_now_26 <| ks_M_now_27n (by omega) <| ks_M_now_28 <| ks_M_now_62 ?_
        rw [ha.h.B]
        exact k _ ha kq_fr.rf
    · rw [if_neg (by decide), if_neg (by decide), if_neg (by decide), if_neg (by decide), if_neg (by decide), if_pos (by decide)] at k
      refine ks_M_now_17 <| ks_M_now_18 <| ks_M_now_19 (fun h19 => ?_) (fun h19 => ?_)
      · refine ks_M_now_31 <| ks_M_now_32 <| ks_M_now_33 (fun h33 => ?_) (fun h33 => ?_)
        · exact absurd (by decide) h33
        · refine ks_M_now_36 <| ks_M_now_37 (Nat.le_of_ble_eq_true rfl) ?_
          refine kt_M_whose ha.h hv ?_
          refine ks_M_now_40 <| ks_M_now_62 ?_
          exact k _ ha kq_fr.rf
      · exact absurd (by decide) h19
    · rw [if_neg (by decide), if_neg (by decide), if_neg (by decide), if_neg (by decide), if_neg (by decide), if_neg (by decide), if_pos (by decide)] at k
      refine ks_M_now_17 <| ks_M_now_18 <| ks_M_now_19 (fun h19 => ?_) (fun h19 => ?_)
      · refine ks_M_now_31 <| ks_M_now_32 <| ks_M_now_33 (fun h33 => ?_) (fun h33 => ?_)
        · refine ks_M_now_43 <| ks_M_now_44 <| ks_M_now_46 (fun h46 => ?_) (fun h46 => ?_)
          · exact absurd (by decide) h46
          · refine ks_M_now_49 <| ks_M_now_50 (Nat.le_of_ble_eq_true rfl) ?_
            refine kt_M_asked ha.h hv ?_
            refine ks_M_now_53 <| ks_M_now_62 ?_
            exact k _ ha kq_fr.rf
        · exact absurd h33 (by decide)
      · exact absurd (by decide) h19
    · rw [if_neg (by decide), if_neg (by decide), if_neg (by decide), if_neg (by decide), if_neg (by decide), if_neg (by decide), if_neg (by decide), if_pos (by decide)] at k
      refine ks_M_now_17 <| ks_M_now_18 <| ks_M_now_19 (fun h19 => ?_) (fun h19 => ?_)
      · refine ks_M_now_31 <| ks_M_now_32 <| ks_M_now_33 (fun h33 => ?_) (fun h33 => ?_)
        · refine ks_M_now_43 <| ks_M_now_44 <| ks_M_now_46 (fun h46 => ?_) (fun h46 => ?_)
          · refine ks_M_now_56 <| ks_M_now_57 <| ks_M_now_60 <| ks_M_now_61 <| ks_M_now_62 ?_
            rw [ha.h.T]
            exact k _ ha kq_fr.rf
          · exact absurd h46 (by decide)
        · exact absurd h33 (by decide)
      · exact absurd (by decide) h19
  · have hq := of_decide_eq_false (kq_b_f h7)
    rw [ki_le, ki_le, ki_0, ki_7] at hq
    have nn : ∀ y : Int32, 0 ≤ y.toInt → y.toInt ≤ 7 → ¬ a = y := fun y h2 h3 q => by rw [q] at hq; omega
    have e0 : sp_now z a = kz_F z 0 := by
      unfold sp_now
      rw [if_neg (nn 0 (by decide) (by decide)), if_neg (nn 1 (by decide) (by decide)), if_neg (nn 2 (by decide) (by decide)), if_neg (nn 3 (by decide) (by decide)), if_neg (nn 4 (by decide) (by decide)), if_neg (nn 5 (by decide) (by decide)), if_neg (nn 6 (by decide) (by decide)), if_neg (nn 7 (by decide) (by decide))]
    rw [e0] at k
    refine ks_M_now_10 <| ks_M_now_11 <| ks_M_now_13 (Nat.le_of_ble_eq_true rfl) ?_
    refine kt_M_fin 0 ha (by decide) (by decide) (fun μ' a1 f1 => ?_)
    refine ks_M_now_16 ?_
    exact k μ' a1 f1
end KM5
