/-! THE CLASS's HALL: the rest */ -/
theorem kh_add_ok {v : kh_S} {k s n u : Int32} (hv : kh_ok v) (hc : kh_c v < 8) (hk : kh_in k 0 5) (hs : kh_in s 0 255) (hn : kh_in n 0 255) (hu : kh_in u 0 9) : kh_ok (kh_add v k s n u) := by
  obtain ⟨h1, h2, h3, h4, h5, h6, h7, h8, h9, h10, h11⟩ := hv
  have up : ∀ {f : Nat → Int32} {x lo hi : Int32}, (∀ j, j < kh_c v → kh_in (f j) lo hi) → kh_in x lo hi → ∀ j, j < kh_c v + 1 → kh_in (kh_up f (kh_c v) x j) lo hi := by
    intro f x lo hi h hx j hj
    unfold kh_up
    split
    · exact hx
    · exact h j (by omega)
  exact ⟨Nat.succ_le_of_lt hc, h2, h3, h4, h5, h6, h7, up h8 hk, up h9 hn, up h10 hs, up h11 hu⟩
theorem kh_swap_ok {v : kh_S} {a b : Nat} (hv : kh_ok v) (ha : a < kh_c v) (hb : b < kh_c v) : kh_ok (kh_swap v a b) := by
  obtain ⟨h1, h2, h3, h4, h5, h6, h7, h8, h9, h10, h11⟩ := hv
  have x : ∀ {f : Nat → Int32} {lo hi : Int32}, (∀ j, j < kh_c v → kh_in (f j) lo hi) → ∀ j, j < kh_c v → kh_in (kh_xch f a b j) lo hi := by
    intro f lo hi h j hj
    unfold kh_xch
    split
    · exact h a ha
    · split
      · exact h b hb
      · exact h j hj
  exact ⟨h1, h2, h3, h4, h5, h6, h7, x h8, x h9, x h10, x h11⟩
theorem kh_lie_le {v : kh_S} {w : Nat} (hv : kh_ok v) (hw : w < kh_c v) : ∃ j : Nat, j < 256 ∧ kh_lie v w = nI j := by
  obtain ⟨a, ha, ea⟩ := kh_in_nI (hv.2.2.2.2.2.2.2.2.1 w hw) (n := 255) ki_255
  unfold kh_lie
  rw [ea]
  obtain ⟨n, hn, en⟩ : ∃ n : Nat, n < 2 ^ 32 ∧ (kh_s v w ^^^ kh_T v) = nI n := by
    refine ⟨(kh_s v w ^^^ kh_T v).toBitVec.toNat, (kh_s v w ^^^ kh_T v).toBitVec.isLt, ?_⟩
    apply Int32.toBitVec_inj.1
    show _ = BitVec.ofNat 32 _
    rw [BitVec.ofNat_toNat]
    simp
  rw [en, kn_and]
  have : a &&& n ≤ a := Nat.and_le_left
  exact ⟨a &&& n, by omega, rfl⟩
section KT5
variable {d r w f : Nat} {μ : kq_M} {v : kh_S} {Q : Option kq_V → kq_M → Prop}
theorem kt_H_callWitness {x : Int32} (hr : kq_hr r = true) (ha : kc_at μ r v) (hv : kh_ok v) (hc : kh_c v < 8) (k : ∀ μ', kc_at μ' r (kh_add v x 0 0 3) → kq_fr (kc_P r) μ μ' → Q (some (kq_I (nI (kh_c v)))) μ') : kq_Call d km_H_callWitness [kq_R r 1, kq_I x] μ Q := by
  have hP : ∀ i, 1 ≤ i → i ≤ 5 → kc_P r r i := fun i h1 h2 => ⟨rfl, h1, h2⟩
  have e0 := ha.c
  refine ke_H_callWitness ?_
  refine ks_H_callWitness_0 <| ks_H_callWitness_1 (by first | rfl | assumption) <| ks_H_callWitness_4 rfl ?_
  rw [e0]
  refine ks_H_callWitness_5 <| ks_H_callWitness_6 (by first | rfl | assumption) <| ks_H_callWitness_9 <| ks_H_callWitness_10 <| ks_H_callWitness_11n (by first | rfl | assumption) (by omega) <| ks_H_callWitness_12 <| ks_H_callWitness_13 (by first | rfl | assumption) <| ks_H_callWitness_16 <| ks_H_callWitness_17 <| ks_H_callWitness_18n (by first | rfl | assumption) (by omega) <| ks_H_callWitness_19 <| ks_H_callWitness_20 (by first | rfl | assumption) <| ks_H_callWitness_23 <| ks_H_callWitness_24 <| ks_H_callWitness_25n (by first | rfl | assumption) (by omega) <| ks_H_callWitness_26 <| ks_H_callWitness_27 (by first | rfl | assumption) <| ks_H_callWitness_30 <| ks_H_callWitness_31 <| ks_H_callWitness_32n (by first | rfl | assumption) (by omega) <| ks_H_callWitness_33 <| ks_H_callWitness_34 rfl <| ks_H_callWitness_35 (by first | rfl | assumption) <| ks_H_callWitness_38 <| ks_H_callWitness_39 <| ks_H_callWitness_40 (by first | rfl | assumption) <| ks_H_callWitness_43 <| ks_H_callWitness_44 ?_
  refine k _ ?_ ((((((kq_fr.rf.wI (hP 2 (by decide) (by decide))).wI (hP 3 (by decide) (by decide))).wI (hP 4 (by decide) (by decide))).wI (hP 5 (by decide) (by decide))).wI (hP 1 (by decide) (by decide))))
  have a4 := ((ha.wk (w := kh_c v) (x := x)).wn (w := kh_c v) (x := 0)).ws (w := kh_c v) (x := 0) |>.wu (w := kh_c v) (x := 3)
  have row : ∀ (μ1 : kq_M) (i : Nat) (f : Nat → Int32) (y : Int32), (∀ w, w < kh_c v → kq_rI μ1 r i w = f w) → ∀ w, w < kh_c v + 1 → kq_rI (kq_wI μ1 r i (kh_c v) y) r i w = kh_up f (kh_c v) y w := by
    intro μ1 i f y h w hw
    unfold kh_up
    by_cases e : w = kh_c v
    · subst e
      rw [if_pos rfl, kc_ws]
    · rw [if_neg e, kc_wr (fun q => e q.2)]
      exact h w (by omega)
  refine ⟨?_, ?_, ?_, ?_, ?_, ?_, ?_, fun w hw => ?_, fun w hw => ?_, fun w hw => ?_, fun w hw => ?_⟩
  · rw [kc_sc (by decide)]; exact a4.T
  · rw [kc_sc (by decide)]; exact a4.H
  · rw [kc_sc (by decide)]; exact a4.W
  · rw [kc_sc (by decide)]; exact a4.B
  · rw [kc_sc (by decide)]; exact a4.E
  · rw [kc_sc (by decide)]; exact a4.m
  · rw [kc_ws, a4.c]; exact nI_1 _
  · rw [kc_ar (by decide), kc_oth (by decide), kc_oth (by decide), kc_oth (by decide)]
    exact row _ 2 _ _ (fun w hw => ha.k hw) w hw
  · rw [kc_ar (by decide), kc_oth (by decide), kc_oth (by decide)]
    exact row _ 3 _ _ (fun w hw => by rw [kc_oth (by decide)]; exact ha.n hw) w hw
  · rw [kc_ar (by decide), kc_oth (by decide)]
    exact row _ 4 _ _ (fun w hw => by rw [kc_oth (by decide), kc_oth (by decide)]; exact ha.s hw) w hw
  · rw [kc_ar (by decide)]
    exact row _ 5 _ _ (fun w hw => by rw [kc_oth (by decide), kc_oth (by decide), kc_oth (by decide)]; exact ha.u hw) w hw
theorem kt_H_exchange {i a b : Nat} (hi : kq_ck i = 1) (h45 : Nat.beq i 45 = false) (hok : kq_ok i r = true) (ha : a < kq_len i) (hb : b < kq_len i) (k : Q none (kq_wI (kq_wI μ r i a (kq_rI μ r i b)) r i b (kq_rI μ r i a))) : kq_Call d km_H_exchange [kq_R r i, kq_I (nI a), kq_I (nI b)] μ Q := by
  refine ke_H_exchange ?_
  refine ks_H_exchange_0 h45 <| ks_H_exchange_1 <| ks_H_exchange_2n hi h45 hok ha <| ks_H_exchange_3 rfl <| ks_H_exchange_4 h45 <| ks_H_exchange_5 <| ks_H_exchange_6 h45 <| ks_H_exchange_7 <| ks_H_exchange_8n hi h45 hok hb <| ks_H_exchange_9n hi h45 hok ha <| ks_H_exchange_10 h45 <| ks_H_exchange_11 <| ks_H_exchange_12 <| ks_H_exchange_13n hi h45 hok hb <| ks_H_exchange_14 ?_
  exact k
theorem kc_xch {i a b : Nat} {g : Nat → Int32} {c : Nat} (h : ∀ w, w < c → kq_rI μ r i w = g w) (ha : a < c) (hb : b < c) : ∀ w, w < c → kq_rI (kq_wI (kq_wI μ r i a (kq_rI μ r i b)) r i b (kq_rI μ r i a)) r i w = kh_xch g a b w := by
  intro w hw
  unfold kh_xch
  by_cases e : w = b
  · subst e
    rw [kc_ws, if_pos rfl]
    exact h a ha
  · rw [if_neg e, kc_wr (fun q => e q.2)]
    by_cases e2 : w = a
    · subst e2
      rw [kc_ws, if_pos rfl]
      exact h b hb
    · rw [if_neg e2, kc_wr (fun q => e2 q.2)]
      exact h w hw
theorem kt_H_changeNumbers {a b : Nat} (hr : kq_hr r = true) (ha : kc_at μ r v) (hv : kh_ok v) (h1 : a < kh_c v) (h2 : b < kh_c v) (k : ∀ μ', kc_at μ' r (kh_swap v a b) → kq_fr (kc_P r) μ μ' → Q none μ') : kq_Call (d + 1) km_H_changeNumbers [kq_R r 1, kq_I (nI a), kq_I (nI b)] μ Q := by
  have hc8 := hv.1
  have l8 : ∀ x, x < kh_c v → x < 8 := fun x h => by omega
  have hP : ∀ i, 1 ≤ i → i ≤ 5 → kc_P r r i := fun i h1 h2 => ⟨rfl, h1, h2⟩
  refine ke_H_changeNumbers ?_
  refine ks_H_changeNumbers_0 <| ks_H_changeNumbers_1 (by first | rfl | assumption) <| ks_H_changeNumbers_4 <| ks_H_changeNumbers_5 <| ks_H_changeNumbers_6 (Nat.le_of_ble_eq_true rfl) ?_
  refine kt_H_exchange rfl rfl hr (l8 a h1) (l8 b h2) ?_
  refine ks_H_changeNumbers_9 <| ks_H_changeNumbers_10 (by first | rfl | assumption) <| ks_H_changeNumbers_13 <| ks_H_changeNumbers_14 <| ks_H_changeNumbers_15 (Nat.le_of_ble_eq_true rfl) ?_
  refine kt_H_exchange rfl rfl hr (l8 a h1) (l8 b h2) ?_
  refine ks_H_changeNumbers_18 <| ks_H_changeNumbers_19 (by first | rfl | assumption) <| ks_H_changeNumbers_22 <| ks_H_changeNumbers_23 <| ks_H_changeNumbers_24 (Nat.le_of_ble_eq_true rfl) ?_
  refine kt_H_exchange rfl rfl hr (l8 a h1) (l8 b h2) ?_
  refine ks_H_changeNumbers_27 <| ks_H_changeNumbers_28 (by first | rfl | assumption) <| ks_H_changeNumbers_31 <| ks_H_changeNumbers_32 <| ks_H_changeNumbers_33 (Nat.le_of_ble_eq_true rfl) ?_
  refine kt_H_exchange rfl rfl hr (l8 a h1) (l8 b h2) ?_
  refine ks_H_changeNumbers_36 ?_
  have p2 := hP 2 (by decide) (by decide)
  have p3 := hP 3 (by decide) (by decide)
  have p4 := hP 4 (by decide) (by decide)
  have p5 := hP 5 (by decide) (by decide)
  refine k _ ?_ ((((((((kq_fr.rf.wI p2).wI p2).wI p3).wI p3).wI p4).wI p4).wI p5).wI p5)
  refine ⟨?_, ?_, ?_, ?_, ?_, ?_, ?_, ?_, ?_, ?_, ?_⟩
  · simp only [kc_oth (show (1 : Nat) ≠ 2 by decide), kc_oth (show (1 : Nat) ≠ 3 by decide), kc_oth (show (1 : Nat) ≠ 4 by decide), kc_oth (show (1 : Nat) ≠ 5 by decide)]; exact ha.T
  · simp only [kc_oth (show (1 : Nat) ≠ 2 by decide), kc_oth (show (1 : Nat) ≠ 3 by decide), kc_oth (show (1 : Nat) ≠ 4 by decide), kc_oth (show (1 : Nat) ≠ 5 by decide)]; exact ha.H
  · simp only [kc_oth (show (1 : Nat) ≠ 2 by decide), kc_oth (show (1 : Nat) ≠ 3 by decide), kc_oth (show (1 : Nat) ≠ 4 by decide), kc_oth (show (1 : Nat) ≠ 5 by decide)]; exact ha.W
  · simp only [kc_oth (show (1 : Nat) ≠ 2 by decide), kc_oth (show (1 : Nat) ≠ 3 by decide), kc_oth (show (1 : Nat) ≠ 4 by decide), kc_oth (show (1 : Nat) ≠ 5 by decide)]; exact ha.B
  · simp only [kc_oth (show (1 : Nat) ≠ 2 by decide), kc_oth (show (1 : Nat) ≠ 3 by decide), kc_oth (show (1 : Nat) ≠ 4 by decide), kc_oth (show (1 : Nat) ≠ 5 by decide)]; exact ha.E
  · simp only [kc_oth (show (1 : Nat) ≠ 2 by decide), kc_oth (show (1 : Nat) ≠ 3 by decide), kc_oth (show (1 : Nat) ≠ 4 by decide), kc_oth (show (1 : Nat) ≠ 5 by decide)]; exact ha.m
  · simp only [kc_oth (show (1 : Nat) ≠ 2 by decide), kc_oth (show (1 : Nat) ≠ 3 by decide), kc_oth (show (1 : Nat) ≠ 4 by decide), kc_oth (show (1 : Nat) ≠ 5 by decide)]; exact ha.c
  · intro w hw
    simp only [kc_oth (show (2 : Nat) ≠ 3 by decide), kc_oth (show (2 : Nat) ≠ 4 by decide), kc_oth (show (2 : Nat) ≠ 5 by decide)]
    exact kc_xch (fun w hw => ha.k hw) h1 h2 w hw
  · intro w hw
    simp only [kc_oth (show (3 : Nat) ≠ 4 by decide), kc_oth (show (3 : Nat) ≠ 5 by decide)]
    exact kc_xch (fun w hw => by simp only [kc_oth (show (3 : Nat) ≠ 2 by decide)]; exact ha.n hw) h1 h2 w hw
  · intro w hw
    simp only [kc_oth (show (4 : Nat) ≠ 5 by decide)]
    exact kc_xch (fun w hw => by simp only [kc_oth (show (4 : Nat) ≠ 2 by decide), kc_oth (show (4 : Nat) ≠ 3 by decide)]; exact ha.s hw) h1 h2 w hw
  · intro w hw
    exact kc_xch (fun w hw => by simp only [kc_oth (show (5 : Nat) ≠ 2 by decide), kc_oth (show (5 : Nat) ≠ 3 by decide), kc_oth (show (5 : Nat) ≠ 4 by decide)]; exact ha.u hw) h1 h2 w hw
theorem kt_H_goesBy {s n : Nat} (hr : kq_hr r = true) (hs : Nat.blt s 4 = true) (ha : kc_at μ r v) (hv : kh_ok v) (hn : n ≤ 40) (hl : kq_rI μ s 8 1 = nI n) (hm : kh_m v + n < 1000000) (k : ∀ μ', kq_fr (kc_P r) μ μ' → Q (some (kq_I (kq_b (kh_goes (kq_rL μ s 9) n 0 v)))) μ') : kq_Call (d + 6) km_H_goesBy [kq_R r 1, kq_R s 8] μ Q := by
  have loop : ∀ (j i : Nat) (μ1 : kq_M) (v1 : kh_S), i + j = n → kc_at μ1 r v1 → kh_ok v1 → kh_m v1 + j < 1000000 → kq_fr (kc_P r) μ μ1 → kh_goes (kq_rL μ s 9) n 0 v = kh_goes (kq_rL μ s 9) j i v1 → kq_S km_H_goesBy (d + 6) 2 [some (kq_R r 1), some (kq_R s 8), some (kq_I (nI i))] [] μ1 Q := by
    intro j
    induction j with
    | zero =>
      intro i μ1 v1 hi a1 o1 hm1 f1 hg
      have hl1 : kq_rI μ1 s 8 1 = nI n := (f1.1 s 8 1 (fun q => absurd q.2.2 (by decide))).trans hl
      refine ks_H_goesBy_2 <| ks_H_goesBy_3 <| ks_H_goesBy_4 (by first | rfl | assumption) <| ks_H_goesBy_7 (fun h7 => ?_) (fun h7 => ?_)
      · refine ks_H_goesBy_38 <| ks_H_goesBy_39 ?_
        rw [hg] at k
        exact k μ1 f1
      · rw [hl1] at h7
        exact absurd (nI_le (show n ≤ i by omega) (by omega)) h7
    | succ j ih =>
      intro i μ1 v1 hi a1 o1 hm1 f1 hg
      have hl1 : kq_rI μ1 s 8 1 = nI n := (f1.1 s 8 1 (fun q => absurd q.2.2 (by decide))).trans hl
      have hn1 : kq_rL μ1 s 9 i = kq_rL μ s 9 i := f1.2.1 s 9 i (fun q => absurd q.2.2 (by decide))
      have hi40 : i < 40 := by omega
      refine ks_H_goesBy_2 <| ks_H_goesBy_3 <| ks_H_goesBy_4 (by first | rfl | assumption) <| ks_H_goesBy_7 (fun h7 => ?_) (fun h7 => ?_)
      · rw [hl1] at h7
        exact absurd h7 (nI_ge (show i < n by omega) (by omega))
      · refine ks_H_goesBy_10 <| ks_H_goesBy_11 (by first | rfl | assumption) <| ks_H_goesBy_14 <| ks_H_goesBy_15 <| ks_H_goesBy_16 (by first | rfl | assumption) <| ks_H_goesBy_19 <| ks_H_goesBy_20n (by first | rfl | assumption) (by omega) <| ks_H_goesBy_21 <| ks_H_goesBy_22 (fun h22 => ?_) (fun h22 => ?_)
        · rw [hn1, a1.H] at h22
          have e : (kh_H v1).toInt64 = kq_rL μ s 9 i := by
            unfold lg_cmp at h22
            split at h22
            · exact absurd h22 (by decide)
            · split at h22
              · assumption
              · exact absurd h22 (by decide)
          refine ks_H_goesBy_27 <| ks_H_goesBy_28 (by first | rfl | assumption) (Nat.le_of_ble_eq_true rfl) ?_
          refine kt_H_passMinute hr a1 o1 (fun μ2 a2 f2 => ?_)
          refine ks_H_goesBy_31 rfl <| ks_H_goesBy_32n rfl <| ks_H_goesBy_35 ?_
          refine ih (i + 1) μ2 (kh_min v1) (by omega) a2 (kh_min_ok o1 (by omega)) (by rw [kh_min_m]; omega) (f1.tr f2) ?_
          rw [hg]
          show (decide _ && _) = _
          rw [decide_eq_true e, Bool.true_and]
        · rw [hn1, a1.H] at h22
          have e : ¬ (kh_H v1).toInt64 = kq_rL μ s 9 i := fun q => h22 (by rw [q]; simp [lg_cmp])
          refine ks_H_goesBy_25 <| ks_H_goesBy_26 ?_
          have e2 : kh_goes (kq_rL μ s 9) (j + 1) i v1 = false := by
            show (decide _ && _) = _
            rw [decide_eq_false e, Bool.false_and]
          rw [hg, e2] at k
          exact k μ1 f1
  refine ke_H_goesBy ?_
  refine ks_H_goesBy_0 <| ks_H_goesBy_1 rfl ?_
  exact loop n 0 μ v (by omega) ha hv hm kq_fr.rf rfl
theorem kt_jI_bitCount {a : Nat} (h : a < 256) (k : Q (some (kq_I (nI (kh_pop a)))) μ) : kq_Call d km_jI_bitCount [kq_I (nI a)] μ Q := by
  refine ke_jI_bitCount ?_
  refine ks_jI_bitCount_0 <| ks_jI_bitCount_1 <| ks_jI_bitCount_2 <| ks_jI_bitCount_3 <| ks_jI_bitCount_4 <| ks_jI_bitCount_7 <| ks_jI_bitCount_8 <| ks_jI_bitCount_9  <| ks_jI_bitCount_10 <| ks_jI_bitCount_11 <| ks_jI_bitCount_14 <| ks_jI_bitCount_15 <| ks_jI_bitCount_16 <| ks_jI_bitCount_17 <| ks_jI_bitCount_18 <| ks_jI_bitCount_21 <| ks_jI_bitCount_22 <| ks_jI_bitCount_23  <| ks_jI_bitCount_24 <| ks_jI_bitCount_25 <| ks_jI_bitCount_26 <| ks_jI_bitCount_27 <| ks_jI_bitCount_28 <| ks_jI_bitCount_29 <| ks_jI_bitCount_32 <| ks_jI_bitCount_33  <| ks_jI_bitCount_34 <| ks_jI_bitCount_35 <| ks_jI_bitCount_36 <| ks_jI_bitCount_38 <| ks_jI_bitCount_39 <| ks_jI_bitCount_40  <| ks_jI_bitCount_41 <| ks_jI_bitCount_42 <| ks_jI_bitCount_43 <| ks_jI_bitCount_45 <| ks_jI_bitCount_46 <| ks_jI_bitCount_47  <| ks_jI_bitCount_48 <| ks_jI_bitCount_49 <| ks_jI_bitCount_51 <| ks_jI_bitCount_52 ?_
  have key : ∀ a, a < 256 → (fun (x : Int32) => (fun (x : Int32) => (fun (x : Int32) => (fun (x : Int32) => (fun (x : Int32) => x &&& 63) (x + (x.toUInt32 >>> ((16 : Int32).toUInt32 &&& Int32.toUInt32 31)).toInt32)) (x + (x.toUInt32 >>> ((8 : Int32).toUInt32 &&& Int32.toUInt32 31)).toInt32)) ((x + (x.toUInt32 >>> ((4 : Int32).toUInt32 &&& Int32.toUInt32 31)).toInt32) &&& 252645135)) ((x &&& 858993459) + ((x.toUInt32 >>> ((2 : Int32).toUInt32 &&& Int32.toUInt32 31)).toInt32 &&& 858993459))) (nI a - (((nI a).toUInt32 >>> ((1 : Int32).toUInt32 &&& Int32.toUInt32 31)).toInt32 &&& 1431655765)) = nI (kh_pop a) := by decide +kernel
  have e := key a h
  dsimp only at e
  rw [e]
  exact k
theorem kh_pop_le (a : Nat) : kh_pop a ≤ 8 := by
  have : ∀ n a, kh_popN n a ≤ n := by
    intro n
    induction n with
    | zero => intro a; exact Nat.le_refl _
    | succ n ih =>
      intro a
      show (if a % 2 = 1 then 1 else 0) + kh_popN n (a / 2) ≤ n + 1
      have := ih (a / 2)
      split <;> omega
  exact this 8 a
theorem kt_H_allLies (hr : kq_hr r = true) (ha : kc_at μ r v) (hv : kh_ok v) (k : Q (some (kq_I (nI (kh_liesN v (kh_c v))))) μ) : kq_Call (d + 1) km_H_allLies [kq_R r 1] μ Q := by
  have hc8 := hv.1
  have loop : ∀ (j i : Nat), i + j = kh_c v → kq_S km_H_allLies (d + 1) 4 [some (kq_R r 1), some (kq_I (nI (kh_liesN v i))), some (kq_I (nI i))] [] μ Q := by
    intro j
    induction j with
    | zero =>
      intro i hi
      refine ks_H_allLies_4 <| ks_H_allLies_5 <| ks_H_allLies_6 (by first | rfl | assumption) <| ks_H_allLies_9 (fun h9 => ?_) (fun h9 => ?_)
      · refine ks_H_allLies_29 <| ks_H_allLies_30 ?_
        rw [show i = kh_c v by omega]
        exact k
      · rw [ha.c] at h9
        exact absurd (nI_le (show kh_c v ≤ i by omega) (by omega)) h9
    | succ j ih =>
      intro i hi
      have hic : i < kh_c v := by omega
      refine ks_H_allLies_4 <| ks_H_allLies_5 <| ks_H_allLies_6 (by first | rfl | assumption) <| ks_H_allLies_9 (fun h9 => ?_) (fun h9 => ?_)
      · rw [ha.c] at h9
        exact absurd h9 (nI_ge hic (by omega))
      · refine ks_H_allLies_12 <| ks_H_allLies_13 <| ks_H_allLies_14 <| ks_H_allLies_15 (by first | rfl | assumption) (Nat.le_of_ble_eq_true rfl) ?_
        refine kt_H_lieSet hr ha hv hic ?_
        obtain ⟨q, hq, eq⟩ := kh_lie_le hv hic
        rw [eq]
        refine ks_H_allLies_18 (Nat.le_of_ble_eq_true rfl) ?_
        refine kt_jI_bitCount hq ?_
        refine ks_H_allLies_21 <| ks_H_allLies_22 rfl <| ks_H_allLies_23n rfl <| ks_H_allLies_26 ?_
        rw [nI_add, show kh_liesN v i + kh_pop q = kh_liesN v (i + 1) by show _ = kh_liesN v i + kh_pop (kh_nat (kh_lie v i)); rw [eq, kh_nat_nI (by omega)]]
        exact ih (i + 1) (by omega)
  refine ke_H_allLies ?_
  refine ks_H_allLies_0 <| ks_H_allLies_1 rfl <| ks_H_allLies_2 <| ks_H_allLies_3 rfl ?_
  exact loop (kh_c v) 0 (by omega)
theorem kt_H_allSure (hr : kq_hr r = true) (ha : kc_at μ r v) (hv : kh_ok v) (k : Q (some (kq_I (kh_sureN v (kh_c v)))) μ) : kq_Call d km_H_allSure [kq_R r 1] μ Q := by
  have hc8 := hv.1
  have loop : ∀ (j i : Nat), i + j = kh_c v → kq_S km_H_allSure d 4 [some (kq_R r 1), some (kq_I (kh_sureN v i)), some (kq_I (nI i))] [] μ Q := by
    intro j
    induction j with
    | zero =>
      intro i hi
      refine ks_H_allSure_4 <| ks_H_allSure_5 <| ks_H_allSure_6 (by first | rfl | assumption) <| ks_H_allSure_9 (fun h9 => ?_) (fun h9 => ?_)
      · refine ks_H_allSure_27 <| ks_H_allSure_28 ?_
        rw [show i = kh_c v by omega]
        exact k
      · rw [ha.c] at h9
        exact absurd (nI_le (show kh_c v ≤ i by omega) (by omega)) h9
    | succ j ih =>
      intro i hi
      have hic : i < kh_c v := by omega
      refine ks_H_allSure_4 <| ks_H_allSure_5 <| ks_H_allSure_6 (by first | rfl | assumption) <| ks_H_allSure_9 (fun h9 => ?_) (fun h9 => ?_)
      · rw [ha.c] at h9
        exact absurd h9 (nI_ge hic (by omega))
      · refine ks_H_allSure_12 <| ks_H_allSure_13 <| ks_H_allSure_14 (by first | rfl | assumption) <| ks_H_allSure_17 <| ks_H_allSure_18n (by first | rfl | assumption) (by omega) <| ks_H_allSure_19 <| ks_H_allSure_20 rfl <| ks_H_allSure_21n rfl <| ks_H_allSure_24 ?_
        rw [ha.u hic]
        exact ih (i + 1) (by omega)
  refine ke_H_allSure ?_
  refine ks_H_allSure_0 <| ks_H_allSure_1 rfl <| ks_H_allSure_2 <| ks_H_allSure_3 rfl ?_
  exact loop (kh_c v) 0 (by omega)
end KT5
