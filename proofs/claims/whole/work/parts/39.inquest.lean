/-! THE CLASS's CLERK: items, the inquest -/
theorem kh_up_up (f : Nat → Int32) (w : Nat) (x y : Int32) : kh_up (kh_up f w x) w y = kh_up f w y := by
  funext j
  unfold kh_up
  by_cases h : j = w
  · rw [if_pos h, if_pos h]
  · rw [if_neg h, if_neg h, if_neg h]
theorem kh_add_u (v : kh_S) (k s n u x : Int32) : kh_setu (kh_add v k s n u) (kh_c v) x = kh_add v k s n x := by
  show kh_mk _ _ _ _ _ _ _ _ _ _ (kh_up (kh_up (kh_u v) (kh_c v) u) (kh_c v) x) = _
  rw [kh_up_up]
  rfl
theorem kh_add_n (v : kh_S) (k s n u x : Int32) : kh_setn (kh_add v k s n u) (kh_c v) x = kh_add v k s x u := by
  show kh_mk _ _ _ _ _ _ _ _ (kh_up (kh_up (kh_n v) (kh_c v) n) (kh_c v) x) _ _ = _
  rw [kh_up_up]
  rfl
theorem kh_add_s (v : kh_S) (k s n u x : Int32) : kh_sets (kh_add v k s n u) (kh_c v) x = kh_add v k x n u := by
  show kh_mk _ _ _ _ _ _ _ _ _ (kh_up (kh_up (kh_s v) (kh_c v) s) (kh_c v) x) _ = _
  rw [kh_up_up]
  rfl
section TK2
variable {t : Nat → Int32} {n p : Nat} {v : kh_S} {T : tk_T}
theorem kh_and255 {x : Int32} {f : Nat} (h : kh_in x 0 255) : kh_in (x &&& (((1 : Int32) <<< (nI f &&& 31)) ^^^ (-1))) 0 255 := by
  obtain ⟨j, hj, rfl⟩ := kh_in_nI (n := 255) h (by decide)
  generalize ((1 : Int32) <<< (nI f &&& 31)) ^^^ (-1) = y
  have e : (nI j &&& y).toBitVec = (BitVec.ofNat 32 j) &&& y.toBitVec := rfl
  have e2 : (BitVec.ofNat 32 j &&& y.toBitVec).toNat ≤ 255 := by
    rw [BitVec.toNat_and]
    refine Nat.le_trans Nat.and_le_left ?_
    rw [BitVec.toNat_ofNat]
    omega
  rw [kh_in_iff, ki_0, ki_255]
  have e3 : (nI j &&& y).toInt = ((BitVec.ofNat 32 j) &&& y.toBitVec).toInt := rfl
  rw [e3, BitVec.toInt_eq_toNat_cond]
  split <;> omega
theorem tk_tr_ok {b : Bool} (hf : tk_fr t n p T) (ho : tk_o T ≠ 0) (hv : kh_ok v) : tk_fr t n (p + 1) (tk_tr t n v b T).2.2 ∧ kh_ok (tk_tr t n v b T).2.1 ∧ kh_m (tk_tr t n v b T).2.1 = kh_m v := by
  unfold tk_tr
  split
  · next h =>
    refine ⟨(hf.nx1 ho).nx, kh_setT_ok hv ?_, rfl⟩
    obtain ⟨f, h8, e⟩ := tk_bit_le h
    rw [e]
    split
    · exact kh_or255 hv.2.1 h8
    · exact kh_and255 hv.2.1
  · exact ⟨hf.nx1 ho, hv, rfl⟩
theorem tk_wa_ok (hf : tk_fr t n p T) (ho : tk_o T ≠ 0) (hv : kh_ok v) : tk_fr t n (p + 1) (tk_wa t n v T).2.2 ∧ kh_ok (tk_wa t n v T).2.1 ∧ kh_m (tk_wa t n v T).2.1 = kh_m v := by
  unfold tk_wa
  split
  · next h => exact ⟨(hf.nx1 ho).nx, kh_setW_ok hv (kh_in_of 99 (tk_n2 h).2 (by decide) (by decide)), rfl⟩
  · exact ⟨hf.nx1 ho, hv, rfl⟩
theorem tk_wit_ok {k : Int32} (hf : tk_fr t n p T) (ho : tk_o T ≠ 0) (hk : kh_in k 0 5) (hv : kh_ok v) : ((tk_wit t n v k T).1 = true → tk_fr t n (p + 1) (tk_wit t n v k T).2.2) ∧ tk_fr t n p (tk_wit t n v k T).2.2 ∧ kh_ok (tk_wit t n v k T).2.1 ∧ kh_m (tk_wit t n v k T).2.1 = kh_m v := by
  have a1 := tk_sure_fr (hf.nx1 ho)
  have a2 := tk_fact_fr (r := 7) a1.1
  have a3 := tk_fact_fr (r := 8) a2.1
  unfold tk_wit
  by_cases h0 : 8 ≤ kh_c v
  · rw [if_pos h0]; exact ⟨fun q => absurd q (by show ¬ (false = true); decide), hf, hv, rfl⟩
  rw [if_neg h0]
  by_cases h1 : (tk_sure t n (tk_nx t n T)).1 = false
  · rw [if_pos h1]; exact ⟨fun _ => a1.1, a1.1.mono (by omega), hv, rfl⟩
  rw [if_neg h1]
  by_cases h2 : (tk_fact t n 7 (tk_sure t n (tk_nx t n T)).2.2).1 = false
  · rw [if_pos h2]; exact ⟨fun _ => a2.1, a2.1.mono (by omega), hv, rfl⟩
  rw [if_neg h2]
  by_cases h3 : (tk_fact t n 8 (tk_fact t n 7 (tk_sure t n (tk_nx t n T)).2.2).2.2).1 = false
  · rw [if_pos h3]; exact ⟨fun _ => a3.1, a3.1.mono (by omega), hv, rfl⟩
  rw [if_neg h3]
  exact ⟨fun _ => a3.1, a3.1.mono (by omega), kh_add_ok hv (by omega) hk a3.2 a2.2 a1.2, rfl⟩
theorem tk_item_ok (hf : tk_fr t n p T) (hv : kh_ok v) : ((tk_item t n v T).1 = true → tk_fr t n (p + 1) (tk_item t n v T).2.2) ∧ tk_fr t n p (tk_item t n v T).2.2 ∧ kh_ok (tk_item t n v T).2.1 ∧ kh_m (tk_item t n v T).2.1 = kh_m v := by
  unfold tk_item
  by_cases h0 : 0 ≤ tk_kind t T
  · rw [if_pos h0]
    have := tk_kind_in h0
    exact tk_wit_ok hf (by rw [this.2]; decide) this.1 hv
  rw [if_neg h0]
  by_cases h1 : tk_w t T 9 = true
  · rw [if_pos h1]
    have a := tk_tr_ok (b := true) hf (by rw [tk_w1 h1]; decide) hv
    exact ⟨fun _ => a.1, a.1.mono (by omega), a.2⟩
  rw [if_neg h1]
  by_cases h2 : tk_w t T 10 = true
  · rw [if_pos h2]
    have a := tk_tr_ok (b := false) hf (by rw [tk_w1 h2]; decide) hv
    exact ⟨fun _ => a.1, a.1.mono (by omega), a.2⟩
  rw [if_neg h2]
  by_cases h3 : tk_w t T 11 = true
  · rw [if_pos h3]
    have a := tk_wa_ok hf (by rw [tk_w1 h3]; decide) hv
    exact ⟨fun _ => a.1, a.1.mono (by omega), a.2⟩
  rw [if_neg h3]
  exact ⟨fun q => absurd q (by show ¬ (false = true); decide), hf, hv, rfl⟩
theorem tk_neg {a : Nat} (h : a ≤ 120) : ¬ (0 : Int32) ≤ -1 - nI a := by
  rw [ki_le, ki_0, ki_sub (by decide) (by rw [nI_toInt (by omega)]; omega), nI_toInt (by omega), ki_m1]
  omega
theorem tk_all_ok (hn : n ≤ 120) : ∀ (q i : Nat) (v : kh_S) (p : Nat), p ≤ n → n - p < q → i ≤ p → kh_ok v →
    ((tk_all t n q i v p).2 = none → ¬ 0 ≤ (tk_all t n q i v p).1) ∧ ∀ v', (tk_all t n q i v p).2 = some v' → 0 ≤ (tk_all t n q i v p).1 ∧ kh_ok v' ∧ kh_m v' = kh_m v
  | 0, _, _, _, _, h, _, _ => absurd h (by omega)
  | q + 1, i, v, p, hp, hq, hi, hv => by
    have a := tk_item_ok (v := v) (tk_fr.mono ⟨p, Nat.le_refl _, hp, rfl⟩ (Nat.le_refl p) : tk_fr t n p (tk_at t n p)) hv
    unfold tk_all
    generalize tk_item t n v (tk_at t n p) = A at a
    have ae := a.2.1.ae
    by_cases h1 : A.1 = false
    · rw [if_pos h1]
      exact ⟨fun _ => tk_neg (by omega), fun v' h => by cases h⟩
    rw [if_neg h1]
    have ht : A.1 = true := by cases h : A.1; exact absurd h h1; rfl
    have ae2 := (a.1 ht).ae
    by_cases h2 : tk_o A.2.2 = 3
    · rw [if_pos h2]
      have h3 := ae2.2.2.2.1 (by omega)
      have g := tk_all_ok hn q (i + 1) A.2.1 (tk_e A.2.2) ae.2.2.1 (by omega) (by omega) a.2.2.1
      rw [a.2.2.2] at g
      exact g
    rw [if_neg h2]
    by_cases h3 : tk_o A.2.2 = 0
    · rw [if_pos h3]
      refine ⟨fun h => (by cases h), fun v' h => ?_⟩
      obtain rfl : A.2.1 = v' := by injection h
      exact ⟨nI_pos' (by omega), a.2.2.1, a.2.2.2⟩
    rw [if_neg h3]
    exact ⟨fun _ => tk_neg (by omega), fun v' h => by cases h⟩
end TK2
def kC_H : Nat → Nat → Prop := fun a b => kC_6 a b ∨ kc_P 2 a b
section KT10
variable {d n p : Nat} {t : Nat → Int32} {v : kh_S} {T : tk_T} {μ : kq_M} {Q : Option kq_V → kq_M → Prop}
theorem tk_fact_w {r : Nat} (h : tk_w t T r = true) : tk_fact t n r T = (decide (0 < (tk_fs t n 4 0 0 (tk_nx t n T)).2.1), (tk_fs t n 4 0 0 (tk_nx t n T)).1, (tk_fs t n 4 0 0 (tk_nx t n T)).2.2) := if_pos h
theorem kC_T.keep {μ' : kq_M} (h : kC_T μ T) (e2 : kq_rI μ' 0 6 2 = kq_rI μ 0 6 2) (e3 : kq_rI μ' 0 6 3 = kq_rI μ 0 6 3) (e4 : kq_rI μ' 0 6 4 = kq_rI μ 0 6 4) (e5 : kq_rI μ' 0 6 5 = kq_rI μ 0 6 5) : kC_T μ' T := ⟨e2.trans h.1, e3.trans h.2.1, e4.trans h.2.2.1, fun q => e5.trans (h.2.2.2 q)⟩
theorem kC_nH : ¬ kc_P 2 0 6 := fun q => absurd q.1 (by decide)
theorem kC_T.fr2 {μ' : kq_M} (h : kC_T μ T) (hf : kq_fr (kc_P 2) μ μ') : kC_T μ' T := h.keep (hf.1 _ _ _ kC_nH) (hf.1 _ _ _ kC_nH) (hf.1 _ _ _ kC_nH) (hf.1 _ _ _ kC_nH)
theorem kC_in.fr2 {μ' : kq_M} (h : kC_in t n μ) (hf : kq_fr (kc_P 2) μ μ') : kC_in t n μ' := ⟨(hf.1 _ _ _ kC_nH).trans h.1, fun j hj => (hf.1 _ _ _ (fun q => absurd q.1 (by decide))).trans (h.2 j hj)⟩
theorem kC_hall {μ' : kq_M} {w : kh_S} (h : kc_at μ 2 w) (hf : kq_fr kC_6 μ μ') : kc_at μ' 2 w := h.fr hf (fun b _ _ q => absurd q.1 (by decide))
theorem kC_f6 {μ' : kq_M} (h : kq_fr kC_6 μ μ') : kq_fr kC_H μ μ' := h.mono (fun _ _ q => Or.inl q)
theorem kC_f2 {μ' : kq_M} (h : kq_fr (kc_P 2) μ μ') : kq_fr kC_H μ μ' := h.mono (fun _ _ q => Or.inr q)
theorem kt_C_next (hT : kC_tp t n) (hi : kC_in t n μ) (hc : kC_T μ T) (hf : tk_fr t n p T) (k : ∀ μ', kC_in t n μ' → kC_T μ' (tk_nx t n T) → kq_fr kC_6 μ μ' → kq_rI μ' 0 6 6 = kq_rI μ 0 6 6 → Q none μ') : kq_Call (d + 1) km_C_nextToken [kq_R 0 6] μ Q := kt_C_nextToken hT hi hf.ae.2.2.1 hc.2.2.1 k
theorem kt_C_takeFacts (hT : kC_tp t n) (hi : kC_in t n μ) (hc : kC_T μ T) (hf : tk_fr t n p T) (k : ∀ μ', kC_in t n μ' → kC_T μ' (tk_fs t n 4 0 0 (tk_nx t n T)).2.2 → kq_fr kC_6 μ μ' → kq_rI μ' 0 6 6 = (tk_fs t n 4 0 0 (tk_nx t n T)).1 → Q (some (kq_I (kq_b (decide (0 < (tk_fs t n 4 0 0 (tk_nx t n T)).2.1))))) μ') : kq_Call (d + 2) km_C_takeFacts [kq_R 0 6] μ Q := by
  generalize hF : tk_fs t n 4 0 0 (tk_nx t n T) = F at k
  have out : ∀ (c : Nat) (S : Int32) (T1 : tk_T) (μ1 : kq_M), c ≤ 4 → kC_in t n μ1 → kC_T μ1 T1 → kq_fr kC_6 μ μ1 → kq_rI μ1 0 6 6 = S → (S, c, T1) = F → kq_S km_C_takeFacts (d + 2) 50 [some (kq_R 0 6), some (kq_I (nI c))] [] μ1 Q := by
    intro c S T1 μ1 hc4 i1 c1 f1 h6 e
    subst e
    refine ks_C_takeFacts_50 <| ks_C_takeFacts_51 (fun h51 => ?_) (fun h51 => ?_)
    · rw [ki_le, ki_0, nI_toInt (by omega)] at h51
      refine ks_C_takeFacts_58 <| ks_C_takeFacts_59 (by first | exact kq_b01' _ | exact Or.inl rfl | exact Or.inr rfl | assumption) ?_
      have g := k μ1 i1 c1 f1 h6
      dsimp only at g
      rw [decide_eq_false (by omega)] at g
      exact g
    · rw [ki_le, ki_0, nI_toInt (by omega)] at h51
      refine ks_C_takeFacts_54 <| ks_C_takeFacts_55 <| ks_C_takeFacts_59 (by first | exact kq_b01' _ | exact Or.inl rfl | exact Or.inr rfl | assumption) ?_
      have g := k μ1 i1 c1 f1 h6
      dsimp only at g
      rw [decide_eq_true (by omega)] at g
      exact g
  have loop : ∀ (q c : Nat) (S : Int32) (T1 : tk_T) (μ1 : kq_M), c + q = 4 → kC_in t n μ1 → kC_T μ1 T1 → tk_fr t n p T1 → kq_fr kC_6 μ μ1 → kq_rI μ1 0 6 6 = S → tk_fs t n q S c T1 = F → kq_S km_C_takeFacts (d + 2) 11 [some (kq_R 0 6), some (kq_I (nI c))] [] μ1 Q := by
    intro q
    induction q with
    | zero =>
      intro c S T1 μ1 hq i1 c1 r1 f1 h6 e
      refine ks_C_takeFacts_11 <| ks_C_takeFacts_12 <| ks_C_takeFacts_13 (fun h13 => ?_) (fun h13 => ?_)
      · exact out c S T1 μ1 (by omega) i1 c1 f1 h6 e
      · rw [ki_le, ki_4, nI_toInt (by omega)] at h13
        omega
    | succ q ih =>
      intro c S T1 μ1 hq i1 c1 r1 f1 h6 e
      have e1 : tk_fs t n (q + 1) S c T1 = if tk_num T1 7 = true then tk_fs t n q (S ||| tk_bit T1) (c + 1) (tk_nx t n T1) else (S, c, T1) := rfl
      refine ks_C_takeFacts_11 <| ks_C_takeFacts_12 <| ks_C_takeFacts_13 (fun h13 => ?_) (fun h13 => ?_)
      · rw [ki_le, ki_4, nI_toInt (by omega)] at h13
        omega
      · refine ks_C_takeFacts_16 <| ks_C_takeFacts_17 <| ks_C_takeFacts_19 (Nat.le_of_ble_eq_true rfl) ?_
        refine kt_C_isNumberUpTo (m := 7) (by decide) c1 r1.ae.2.2.2.2 ?_
        refine ks_C_takeFacts_22 (fun h22 => ?_) (fun h22 => ?_)
        · rw [if_neg (by rw [kq_b_f h22]; decide)] at e1
          exact out c S T1 μ1 (by omega) i1 c1 f1 h6 (e1.symm.trans e)
        · have h7 := kq_b_t h22
          rw [if_pos h7] at e1
          have h2 := tk_n2 h7
          refine ks_C_takeFacts_25 <| ks_C_takeFacts_26 rfl <| ks_C_takeFacts_27 <| ks_C_takeFacts_30 <| ks_C_takeFacts_31 <| ks_C_takeFacts_32 <| ks_C_takeFacts_35 <| ks_C_takeFacts_36 <| ks_C_takeFacts_37 <| ks_C_takeFacts_40n rfl <| ks_C_takeFacts_43 <| ks_C_takeFacts_44 (Nat.le_of_ble_eq_true rfl) ?_
          rw [h6, c1.2.2.2 h2.1, show min (tk_v T1) 1000 = tk_v T1 by omega]
          have ff : kq_fr kC_6 μ1 (kq_wI μ1 0 6 6 (S ||| tk_bit T1)) := kq_fr.rf.wI ⟨rfl, rfl⟩
          have i2 : kC_in t n (kq_wI μ1 0 6 6 (S ||| tk_bit T1)) := i1.fr ff (by rw [kc_wr (fun q => absurd q.2 (by decide))]; exact i1.1)
          have c2 : kC_T (kq_wI μ1 0 6 6 (S ||| tk_bit T1)) T1 := c1.keep (kc_wr (fun q => absurd q.2 (by decide))) (kc_wr (fun q => absurd q.2 (by decide))) (kc_wr (fun q => absurd q.2 (by decide))) (kc_wr (fun q => absurd q.2 (by decide)))
          refine kt_C_next hT i2 c2 r1 (fun μ3 i3 c3 f3 h63 => ?_)
          refine ks_C_takeFacts_47 ?_
          refine ih (c + 1) (S ||| tk_bit T1) (tk_nx t n T1) μ3 (by omega) i3 c3 r1.nx ((f1.tr ff).tr f3) ?_ (e1.symm.trans e)
          rw [h63, kc_ws]
          rfl
  refine ke_C_takeFacts ?_
  refine ks_C_takeFacts_0 <| ks_C_takeFacts_1 <| ks_C_takeFacts_2 <| ks_C_takeFacts_5 <| ks_C_takeFacts_6 rfl <| ks_C_takeFacts_7 <| ks_C_takeFacts_8 (Nat.le_of_ble_eq_true rfl) ?_
  have ff : kq_fr kC_6 μ (kq_wI μ 0 6 6 0) := kq_fr.rf.wI ⟨rfl, rfl⟩
  have i2 : kC_in t n (kq_wI μ 0 6 6 0) := hi.fr ff (by rw [kc_wr (fun q => absurd q.2 (by decide))]; exact hi.1)
  have c2 : kC_T (kq_wI μ 0 6 6 0) T := hc.keep (kc_wr (fun q => absurd q.2 (by decide))) (kc_wr (fun q => absurd q.2 (by decide))) (kc_wr (fun q => absurd q.2 (by decide))) (kc_wr (fun q => absurd q.2 (by decide)))
  refine kt_C_next hT i2 c2 hf (fun μ3 i3 c3 f3 h63 => ?_)
  exact loop 4 0 0 (tk_nx t n T) μ3 rfl i3 c3 hf.nx (ff.tr f3) (by rw [h63, kc_ws]) hF
/-- what taking something leaves -/
def kC_res (t : Nat → Int32) (n : Nat) (μ μ' : kq_M) (A : Bool × kh_S × tk_T) : Prop := kC_in t n μ' ∧ kC_T μ' A.2.2 ∧ (A.1 = true → kc_at μ' 2 A.2.1) ∧ kq_fr kC_H μ μ'
theorem kt_C_takeTruth {b : Bool} (hT : kC_tp t n) (hi : kC_in t n μ) (hc : kC_T μ T) (hf : tk_fr t n p T) (ha : kc_at μ 2 v) (k : ∀ μ', kC_res t n μ μ' (tk_tr t n v b T) → Q (some (kq_I (kq_b (tk_tr t n v b T).1))) μ') : kq_Call (d + 2) km_C_takeTruth [kq_R 0 6, kq_R 2 1, kq_I (kq_b b)] μ Q := by
  refine ke_C_takeTruth ?_
  refine ks_C_takeTruth_0 <| ks_C_takeTruth_1 (Nat.le_of_ble_eq_true rfl) ?_
  refine kt_C_next hT hi hc hf (fun μ1 i1 c1 f1 _ => ?_)
  refine ks_C_takeTruth_4 <| ks_C_takeTruth_5 <| ks_C_takeTruth_7 (Nat.le_of_ble_eq_true rfl) ?_
  refine kt_C_isNumberUpTo (m := 7) (by decide) c1 hf.nx.ae.2.2.2.2 ?_
  have a1 := kC_hall ha f1
  refine ks_C_takeTruth_10 (fun h10 => ?_) (fun h10 => ?_)
  · have h7 := kq_b_t h10
    have h2 := tk_n2 h7
    have eA : tk_tr t n v b T = _ := if_pos h7
    rw [eA] at k
    clear eA
    have fin : ∀ (x : Int32) (o : kq_V), x = (if b = true then kh_T v ||| tk_bit (tk_nx t n T) else kh_T v &&& (tk_bit (tk_nx t n T) ^^^ (-1))) → kq_S km_C_takeTruth (d + 2) 44 [some (kq_R 0 6), some (kq_R 2 1), some (kq_I (kq_b b)), some o] [kq_I x, kq_R 2 1] μ1 Q := by
      intro x o hx
      refine ks_C_takeTruth_44 (by first | rfl | assumption) <| ks_C_takeTruth_47 <| ks_C_takeTruth_48 (Nat.le_of_ble_eq_true rfl) ?_
      have ff : kq_fr (kc_P 2) μ1 (kq_wI μ1 2 1 0 x) := kq_fr.rf.wI ⟨rfl, by decide, by decide⟩
      refine kt_C_next hT (i1.fr2 ff) (c1.fr2 ff) hf.nx (fun μ3 i3 c3 f3 _ => ?_)
      refine ks_C_takeTruth_51 <| ks_C_takeTruth_52 ?_
      rw [← hx] at k
      exact k μ3 ⟨i3, c3, fun _ => kC_hall a1.wT f3, ((kC_f6 f1).tr (kC_f2 ff)).tr (kC_f6 f3)⟩
    refine ks_C_takeTruth_15 <| ks_C_takeTruth_16 <| ks_C_takeTruth_17 <| ks_C_takeTruth_20 <| ks_C_takeTruth_21 rfl <| ks_C_takeTruth_22 <| ks_C_takeTruth_23 <| ks_C_takeTruth_24 (fun h24 => ?_) (fun h24 => ?_)
    · rw [c1.2.2.2 h2.1, show min (tk_v (tk_nx t n T)) 1000 = tk_v (tk_nx t n T) by omega]
      refine ks_C_takeTruth_36 <| ks_C_takeTruth_37 (by first | rfl | assumption) <| ks_C_takeTruth_40 <| ks_C_takeTruth_41 <| ks_C_takeTruth_42 <| ks_C_takeTruth_43 ?_
      rw [a1.T]
      refine fin _ _ ?_
      rw [if_neg (by rw [kq_b_f h24]; decide)]
      rfl
    · rw [c1.2.2.2 h2.1, show min (tk_v (tk_nx t n T)) 1000 = tk_v (tk_nx t n T) by omega]
      refine ks_C_takeTruth_27 <| ks_C_takeTruth_28 (by first | rfl | assumption) <| ks_C_takeTruth_31 <| ks_C_takeTruth_32 <| ks_C_takeTruth_33 ?_
      rw [a1.T]
      refine fin _ _ ?_
      rw [if_pos (kq_b_t h24)]
      rfl
  · have eA : tk_tr t n v b T = _ := if_neg (by rw [kq_b_f h10]; decide)
    rw [eA] at k
    refine ks_C_takeTruth_13 <| ks_C_takeTruth_14 ?_
    exact k μ1 ⟨i1, c1, fun q => absurd q (by show ¬ (false = true); decide), kC_f6 f1⟩
theorem kt_C_takeWater (hT : kC_tp t n) (hi : kC_in t n μ) (hc : kC_T μ T) (hf : tk_fr t n p T) (ha : kc_at μ 2 v) (k : ∀ μ', kC_res t n μ μ' (tk_wa t n v T) → Q (some (kq_I (kq_b (tk_wa t n v T).1))) μ') : kq_Call (d + 2) km_C_takeWater [kq_R 0 6, kq_R 2 1] μ Q := by
  refine ke_C_takeWater ?_
  refine ks_C_takeWater_0 <| ks_C_takeWater_1 (Nat.le_of_ble_eq_true rfl) ?_
  refine kt_C_next hT hi hc hf (fun μ1 i1 c1 f1 _ => ?_)
  refine ks_C_takeWater_4 <| ks_C_takeWater_5 <| ks_C_takeWater_7 (Nat.le_of_ble_eq_true rfl) ?_
  refine kt_C_isNumberUpTo (m := 99) (by decide) c1 hf.nx.ae.2.2.2.2 ?_
  have a1 := kC_hall ha f1
  refine ks_C_takeWater_10 (fun h10 => ?_) (fun h10 => ?_)
  · have h7 := kq_b_t h10
    have h2 := tk_n2 h7
    have eA : tk_wa t n v T = _ := if_pos h7
    rw [eA] at k
    refine ks_C_takeWater_15 <| ks_C_takeWater_16 <| ks_C_takeWater_17 <| ks_C_takeWater_20 (by first | rfl | assumption) <| ks_C_takeWater_23 <| ks_C_takeWater_24 (Nat.le_of_ble_eq_true rfl) ?_
    rw [c1.2.2.2 h2.1, show min (tk_v (tk_nx t n T)) 1000 = tk_v (tk_nx t n T) by omega]
    have ff : kq_fr (kc_P 2) μ1 (kq_wI μ1 2 1 2 (nI (tk_v (tk_nx t n T)))) := kq_fr.rf.wI ⟨rfl, by decide, by decide⟩
    refine kt_C_next hT (i1.fr2 ff) (c1.fr2 ff) hf.nx (fun μ3 i3 c3 f3 _ => ?_)
    refine ks_C_takeWater_27 <| ks_C_takeWater_28 ?_
    exact k μ3 ⟨i3, c3, fun _ => kC_hall a1.wW f3, ((kC_f6 f1).tr (kC_f2 ff)).tr (kC_f6 f3)⟩
  · have eA : tk_wa t n v T = _ := if_neg (by rw [kq_b_f h10]; decide)
    rw [eA] at k
    refine ks_C_takeWater_13 <| ks_C_takeWater_14 ?_
    exact k μ1 ⟨i1, c1, fun q => absurd q (by show ¬ (false = true); decide), kC_f6 f1⟩
theorem kt_C_takeWitness {kd : Int32} (hT : kC_tp t n) (hi : kC_in t n μ) (hc : kC_T μ T) (hf : tk_fr t n p T) (ha : kc_at μ 2 v) (hv : kh_ok v) (k : ∀ μ', kC_res t n μ μ' (tk_wit t n v kd T) → Q (some (kq_I (kq_b (tk_wit t n v kd T).1))) μ') : kq_Call (d + 5) km_C_takeWitness [kq_R 0 6, kq_R 2 1, kq_I kd] μ Q := by
  have hn := hT.1
  have hc8 := hv.1
  have nf : ¬ ((false : Bool) = true) := by decide
  refine ke_C_takeWitness ?_
  refine ks_C_takeWitness_0 <| ks_C_takeWitness_1 (by first | rfl | assumption) <| ks_C_takeWitness_4 <| ks_C_takeWitness_6 (fun h6 => ?_) (fun h6 => ?_)
  · rw [ha.c, ki_lt, ki_8, nI_toInt (by omega)] at h6
    have eA : tk_wit t n v kd T = _ := if_neg (show ¬ 8 ≤ kh_c v by omega)
    have s3 : ∀ (T3 : tk_T) (S x u : Int32) (μ3 : kq_M), kC_in t n μ3 → kC_T μ3 T3 → kc_at μ3 2 (kh_add v kd S x u) → kq_fr kC_H μ μ3 → (tk_sure t n (tk_nx t n T)).1 = true → (tk_fact t n 7 (tk_sure t n (tk_nx t n T)).2.2).1 = true → (tk_sure t n (tk_nx t n T)).2.1 = u → (tk_fact t n 7 (tk_sure t n (tk_nx t n T)).2.2).2.1 = x → tk_fact t n 8 (tk_fact t n 7 (tk_sure t n (tk_nx t n T)).2.2).2.2 = (true, S, T3) → kq_S km_C_takeWitness (d + 5) 115 [some (kq_R 0 6), some (kq_R 2 1), some (kq_I kd), some (kq_I (nI (kh_c v)))] [] μ3 Q := by
      intro T3 S x u μ3 i3 c3 a3 f3 e1 e2 e3 e4 e5
      rw [if_neg (by rw [e1]; decide), if_neg (by rw [e2]; decide), e5, if_neg (show ¬ (true = false) by decide), e3, e4] at eA
      rw [eA] at k
      refine ks_C_takeWitness_115 <| ks_C_takeWitness_116 ?_
      exact k μ3 ⟨i3, c3, fun _ => a3, f3⟩
    have s2 : ∀ (T2 : tk_T) (x u : Int32) (μ2 : kq_M), kC_in t n μ2 → kC_T μ2 T2 → tk_fr t n p T2 → kc_at μ2 2 (kh_add v kd 0 x u) → kq_fr kC_H μ μ2 → (tk_sure t n (tk_nx t n T)).1 = true → (tk_sure t n (tk_nx t n T)).2.1 = u → tk_fact t n 7 (tk_sure t n (tk_nx t n T)).2.2 = (true, x, T2) → kq_S km_C_takeWitness (d + 5) 87 [some (kq_R 0 6), some (kq_R 2 1), some (kq_I kd), some (kq_I (nI (kh_c v)))] [] μ2 Q := by
      intro T2 x u μ2 i2 c2 r2 a2 f2 e1 e3 e4
      have ae := r2.ae
      have e7 : tk_fact t n 8 (tk_fact t n 7 (tk_sure t n (tk_nx t n T)).2.2).2.2 = tk_fact t n 8 T2 := by rw [e4]
      have e8 : (tk_fact t n 7 (tk_sure t n (tk_nx t n T)).2.2).2.1 = x := by rw [e4]
      have e9 : (tk_fact t n 7 (tk_sure t n (tk_nx t n T)).2.2).1 = true := by rw [e4]
      refine ks_C_takeWitness_87 <| ks_C_takeWitness_88 <| ks_C_takeWitness_90 (Nat.le_of_ble_eq_true rfl) ?_
      refine kt_C_isWord (r := 8) (by decide) hn i2 c2 ⟨ae.2.1, ae.2.2.1, ae.2.2.2.2⟩ ?_
      refine ks_C_takeWitness_93 (fun h93 => ?_) (fun h93 => ?_)
      · exact s3 T2 0 x u μ2 i2 c2 a2 f2 e1 e9 e3 e8 (by rw [e4]; show tk_fact t n 8 T2 = _; unfold tk_fact; rw [if_neg (by rw [kq_b_f h93]; decide)])
      · have h8 := kq_b_t h93
        refine ks_C_takeWitness_96 <| ks_C_takeWitness_97 (Nat.le_of_ble_eq_true rfl) ?_
        refine kt_C_takeFacts hT i2 c2 r2 (fun μ3 i3 c3 f3 h63 => ?_)
        have e10 := e7.trans (tk_fact_w h8)
        refine ks_C_takeWitness_100 (fun h100 => ?_) (fun h100 => ?_)
        · have h100 := kq_b_t h100
          refine ks_C_takeWitness_105 <| ks_C_takeWitness_106 (by first | rfl | assumption) <| ks_C_takeWitness_109 <| ks_C_takeWitness_110 <| ks_C_takeWitness_111 <| ks_C_takeWitness_114n (by first | rfl | assumption) (by omega) ?_
          rw [h63]
          have ff : kq_fr (kc_P 2) μ3 (kq_wI μ3 2 4 (kh_c v) (tk_fs t n 4 0 0 (tk_nx t n T2)).1) := kq_fr.rf.wI ⟨rfl, by decide, by decide⟩
          have a4 := (kC_hall a2 f3).ws (w := kh_c v) (x := (tk_fs t n 4 0 0 (tk_nx t n T2)).1)
          rw [kh_add_s] at a4
          rw [h100] at e10
          exact s3 _ _ x u _ (i3.fr2 ff) (c3.fr2 ff) a4 ((f2.tr (kC_f6 f3)).tr (kC_f2 ff)) e1 e9 e3 e8 e10
        · have h100 := kq_b_f h100
          rw [h100] at e10
          rw [if_neg (by rw [e1]; decide), if_neg (by rw [e9]; decide), e10, if_pos rfl] at eA
          rw [eA] at k
          refine ks_C_takeWitness_103 <| ks_C_takeWitness_104 ?_
          exact k μ3 ⟨i3, c3, fun q => absurd q nf, f2.tr (kC_f6 f3)⟩
    have s1 : ∀ (T1 : tk_T) (u : Int32) (μ1 : kq_M), kC_in t n μ1 → kC_T μ1 T1 → tk_fr t n p T1 → kc_at μ1 2 (kh_add v kd 0 0 u) → kq_fr kC_H μ μ1 → tk_sure t n (tk_nx t n T) = (true, u, T1) → kq_S km_C_takeWitness (d + 5) 59 [some (kq_R 0 6), some (kq_R 2 1), some (kq_I kd), some (kq_I (nI (kh_c v)))] [] μ1 Q := by
      intro T1 u μ1 i1 c1 r1 a1 f1 e3
      have ae := r1.ae
      have e1 : (tk_sure t n (tk_nx t n T)).1 = true := by rw [e3]
      have e2 : (tk_sure t n (tk_nx t n T)).2.1 = u := by rw [e3]
      refine ks_C_takeWitness_59 <| ks_C_takeWitness_60 <| ks_C_takeWitness_62 (Nat.le_of_ble_eq_true rfl) ?_
      refine kt_C_isWord (r := 7) (by decide) hn i1 c1 ⟨ae.2.1, ae.2.2.1, ae.2.2.2.2⟩ ?_
      refine ks_C_takeWitness_65 (fun h65 => ?_) (fun h65 => ?_)
      · exact s2 T1 0 u μ1 i1 c1 r1 a1 f1 e1 e2 (by rw [e3]; show tk_fact t n 7 T1 = _; unfold tk_fact; rw [if_neg (by rw [kq_b_f h65]; decide)])
      · have h8 := kq_b_t h65
        refine ks_C_takeWitness_68 <| ks_C_takeWitness_69 (Nat.le_of_ble_eq_true rfl) ?_
        refine kt_C_takeFacts hT i1 c1 r1 (fun μ3 i3 c3 f3 h63 => ?_)
        have e10 := (show tk_fact t n 7 (tk_sure t n (tk_nx t n T)).2.2 = tk_fact t n 7 T1 by rw [e3]).trans (tk_fact_w h8)
        refine ks_C_takeWitness_72 (fun h72 => ?_) (fun h72 => ?_)
        · have h72 := kq_b_t h72
          refine ks_C_takeWitness_77 <| ks_C_takeWitness_78 (by first | rfl | assumption) <| ks_C_takeWitness_81 <| ks_C_takeWitness_82 <| ks_C_takeWitness_83 <| ks_C_takeWitness_86n (by first | rfl | assumption) (by omega) ?_
          rw [h63]
          have ff : kq_fr (kc_P 2) μ3 (kq_wI μ3 2 3 (kh_c v) (tk_fs t n 4 0 0 (tk_nx t n T1)).1) := kq_fr.rf.wI ⟨rfl, by decide, by decide⟩
          have a4 := (kC_hall a1 f3).wn (w := kh_c v) (x := (tk_fs t n 4 0 0 (tk_nx t n T1)).1)
          rw [kh_add_n] at a4
          rw [h72] at e10
          exact s2 _ _ u _ (i3.fr2 ff) (c3.fr2 ff) (tk_fs_fr _ _ _ _ r1.nx) a4 ((f1.tr (kC_f6 f3)).tr (kC_f2 ff)) e1 e2 e10
        · have h72 := kq_b_f h72
          rw [h72] at e10
          rw [if_neg (by rw [e1]; decide), e10, if_pos rfl] at eA
          rw [eA] at k
          refine ks_C_takeWitness_75 <| ks_C_takeWitness_76 ?_
          exact k μ3 ⟨i3, c3, fun q => absurd q nf, f1.tr (kC_f6 f3)⟩
    refine ks_C_takeWitness_11 <| ks_C_takeWitness_12 <| ks_C_takeWitness_13 (by first | rfl | assumption) (Nat.le_of_ble_eq_true rfl) ?_
    refine kt_H_callWitness rfl ha hv (by omega) (fun μ1 a1 f1 => ?_)
    refine ks_C_takeWitness_16 rfl <| ks_C_takeWitness_17 <| ks_C_takeWitness_18 (Nat.le_of_ble_eq_true rfl) ?_
    refine kt_C_next hT (hi.fr2 f1) (hc.fr2 f1) hf (fun μ2 i2 c2 f2 _ => ?_)
    have a2 := kC_hall a1 f2
    have r2 := hf.nx
    have ae := r2.ae
    refine ks_C_takeWitness_21 <| ks_C_takeWitness_22 <| ks_C_takeWitness_24 (Nat.le_of_ble_eq_true rfl) ?_
    refine kt_C_isWord (r := 6) (by decide) hn i2 c2 ⟨ae.2.1, ae.2.2.1, ae.2.2.2.2⟩ ?_
    refine ks_C_takeWitness_27 (fun h27 => ?_) (fun h27 => ?_)
    · exact s1 _ 3 μ2 i2 c2 r2 a2 ((kC_f2 f1).tr (kC_f6 f2)) (by unfold tk_sure; rw [if_neg (by rw [kq_b_f h27]; decide)])
    · have h8 := kq_b_t h27
      refine ks_C_takeWitness_30 <| ks_C_takeWitness_31 (Nat.le_of_ble_eq_true rfl) ?_
      refine kt_C_next hT i2 c2 r2 (fun μ3 i3 c3 f3 _ => ?_)
      have a3 := kC_hall a2 f3
      have r3 := r2.nx
      refine ks_C_takeWitness_34 <| ks_C_takeWitness_35 <| ks_C_takeWitness_37 (Nat.le_of_ble_eq_true rfl) ?_
      refine kt_C_isNumberUpTo (m := 9) (by decide) c3 r3.ae.2.2.2.2 ?_
      refine ks_C_takeWitness_40 (fun h40 => ?_) (fun h40 => ?_)
      · have h9 := kq_b_t h40
        have h2 := tk_n2 h9
        refine ks_C_takeWitness_45 <| ks_C_takeWitness_46 (by first | rfl | assumption) <| ks_C_takeWitness_49 <| ks_C_takeWitness_50 <| ks_C_takeWitness_51 <| ks_C_takeWitness_54n (by first | rfl | assumption) (by omega) <| ks_C_takeWitness_55 <| ks_C_takeWitness_56 (Nat.le_of_ble_eq_true rfl) ?_
        rw [c3.2.2.2 h2.1, show min (tk_v (tk_nx t n (tk_nx t n T))) 1000 = tk_v (tk_nx t n (tk_nx t n T)) by omega]
        have ff : kq_fr (kc_P 2) μ3 (kq_wI μ3 2 5 (kh_c v) (nI (tk_v (tk_nx t n (tk_nx t n T))))) := kq_fr.rf.wI ⟨rfl, by decide, by decide⟩
        have a4 := a3.wu (w := kh_c v) (x := nI (tk_v (tk_nx t n (tk_nx t n T))))
        rw [kh_add_u] at a4
        refine kt_C_next hT (i3.fr2 ff) (c3.fr2 ff) r3 (fun μ5 i5 c5 f5 _ => ?_)
        exact s1 _ _ μ5 i5 c5 r3.nx (kC_hall a4 f5) (((((kC_f2 f1).tr (kC_f6 f2)).tr (kC_f6 f3)).tr (kC_f2 ff)).tr (kC_f6 f5)) (by unfold tk_sure; rw [if_pos h8, if_pos h9])
      · have e3 : tk_sure t n (tk_nx t n T) = _ := (if_pos h8).trans (if_neg (show ¬ tk_num (tk_nx t n (tk_nx t n T)) 9 = true by rw [kq_b_f h40]; decide))
        rw [e3, if_pos rfl] at eA
        rw [eA] at k
        refine ks_C_takeWitness_43 <| ks_C_takeWitness_44 ?_
        exact k μ3 ⟨i3, c3, fun q => absurd q nf, ((kC_f2 f1).tr (kC_f6 f2)).tr (kC_f6 f3)⟩
  · rw [ha.c, ki_lt, ki_8, nI_toInt (by omega)] at h6
    rw [show tk_wit t n v kd T = _ from if_pos (show 8 ≤ kh_c v by omega)] at k
    refine ks_C_takeWitness_9 <| ks_C_takeWitness_10 ?_
    exact k μ ⟨hi, hc, fun q => absurd q nf, kq_fr.rf⟩
end KT10
