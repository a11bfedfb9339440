/-! THE REFERENCE: its calls (6): the tape, images, counts -/
section KM9
variable {z : kz_S} {w a x n s f : Int32}
theorem kM_at.tape {μ μ' : kq_M} {m : Nat} {t : Nat → Int32} (h : kM_at μ z) (hf : kq_fr (fun a b => a = 0 ∧ (b = 20 ∨ b = 25)) μ μ') (h19 : kq_rI μ' 0 20 19 = kq_rI μ 0 20 19) (hn : kq_rI μ' 0 20 6 = nI m) (ht : ∀ j, j < m → kq_rI μ' 0 25 j = t j) : kM_at μ' (kz_sett z m t) := by
  have o : ∀ b, b ≠ 20 → b ≠ 25 → ¬ ((0 : Nat) = 0 ∧ (b = 20 ∨ b = 25)) := fun b h1 h2 q => by omega
  refine ⟨h.h.fr hf (o 21 (by decide) (by decide)), h19.trans h.b, fun hb => (h.k hb).fr hf (o 30 (by decide) (by decide)), hn, ht, fun s hs => ?_, fun s hs => ?_, fun s hs j hj => ?_, fun k hk => ?_⟩
  · rw [hf.1 _ _ _ (o 26 (by decide) (by decide))]; exact h.B s hs
  · rw [hf.1 _ _ _ (o 27 (by decide) (by decide))]; exact h.L s hs
  · rw [hf.2.1 _ _ _ (o 28 (by decide) (by decide))]; exact h.N s hs j hj
  · rw [hf.1 _ _ _ (o 22 (by decide) (by decide))]; exact h.f k hk
theorem ko_M_feed (hz : kz_ok z) : kM_ct km_M_feed [kq_I x, kq_I n] z (sp_feed z x n).2 (kq_I (sp_feed z x n).1) := by
  intro μ Q ha k
  have hl := hz.2.2.1
  refine ke_M_feed ?_
  refine ks_M_feed_0 <| ks_M_feed_1 <| ks_M_feed_2 <| ks_M_feed_3 (Nat.le_of_ble_eq_true rfl) ?_
  refine kt_M_in ?_
  refine ks_M_feed_6 (fun h6 => ?_) (fun h6 => ?_)
  · have h := of_decide_eq_true (kq_b_t h6)
    have e0 : sp_feed z x n = _ := if_neg (fun q => q h)
    obtain ⟨j, hj, rfl⟩ := kn_of_le (c := 4) (by decide) (by decide) h
    rw [kh_nat_nI (by omega)] at e0
    rw [ki_1] at hj
    refine ks_M_feed_16 <| ks_M_feed_17 <| ks_M_feed_20 <| ks_M_feed_21 <| ks_M_feed_22 <| ks_M_feed_24 (fun h24 => ?_) (fun h24 => ?_)
    · rw [ha.n, nI_add, ki_le, nI_toInt (by omega), ki_120] at h24
      rw [if_neg (by omega)] at e0
      rw [e0] at k
      have out : ∀ (y : Int32) (μ1 : kq_M), y < 0 → kq_rI μ1 0 20 6 = nI (kz_n z + j) → kq_rI μ1 0 20 19 = kq_rI μ 0 20 19 → (∀ q, q < kz_n z + j → kq_rI μ1 0 25 q = kg_feed x j (kz_n z) (kz_t z) q) → kq_fr (fun a b => a = 0 ∧ (b = 20 ∨ b = 25)) μ μ1 → kq_S km_M_feed 11 38 [some (kq_R 0 20), some (kq_I x), some (kq_I (nI j)), some (kq_I y)] [] μ1 Q := by
        intro y μ1 hy hn1 h19 ht1 f1
        refine ks_M_feed_38 <| ks_M_feed_39 (fun h39 => ?_) (fun h39 => ?_)
        · refine ks_M_feed_77 <| ks_M_feed_78 <| ks_M_feed_81 ?_
          rw [hn1]
          exact k μ1 (ha.tape f1 h19 hn1 ht1) (f1.mono (fun a b q => by rcases q.2 with e | e <;> (show 20 ≤ b; omega)))
        · exact absurd hy h39
      have loop : ∀ (i m : Nat) (t : Nat → Int32) (μ1 : kq_M), m + i + 1 = kz_n z + j → kq_rI μ1 0 20 6 = nI m → kq_rI μ1 0 20 19 = kq_rI μ 0 20 19 → (∀ q, q < m → kq_rI μ1 0 25 q = t q) → kg_feed x (i + 1) m t = kg_feed x j (kz_n z) (kz_t z) → kq_fr (fun a b => a = 0 ∧ (b = 20 ∨ b = 25)) μ μ1 → kq_S km_M_feed 11 38 [some (kq_R 0 20), some (kq_I x), some (kq_I (nI j)), some (kq_I (nI i))] [] μ1 Q := by
        intro i
        induction i with
        | zero =>
          intro m t μ1 hm hn1 h19 ht1 hg f1
          refine ks_M_feed_38 <| ks_M_feed_39 (fun h39 => ?_) (fun h39 => ?_)
          · exact absurd h39 (by decide)
          · refine ks_M_feed_42 <| ks_M_feed_43 <| ks_M_feed_46 <| ks_M_feed_47 <| ks_M_feed_50 <| ks_M_feed_51 <| ks_M_feed_53 <| ks_M_feed_54 <| ks_M_feed_55 <| ks_M_feed_56 <| ks_M_feed_59 <| ks_M_feed_60 m hn1 (by omega) <| ks_M_feed_61 <| ks_M_feed_62 rfl <| ks_M_feed_63 <| ks_M_feed_66 <| ks_M_feed_67 <| ks_M_feed_68 <| ks_M_feed_71 rfl <| ks_M_feed_74 ?_
            refine out _ _ (by decide) ?_ ?_ (fun q hq => ?_) ((f1.wI ⟨rfl, Or.inr rfl⟩).wI ⟨rfl, Or.inl rfl⟩)
            · rw [kc_ws, kc_wr (fun q => absurd q.1 (by decide)), hn1, nI_1, show m + 1 = kz_n z + j by omega]
            · rw [kc_wr (fun q => absurd q.2 (by decide)), kc_wr (fun q => absurd q.1 (by decide))]; exact h19
            · rw [kc_wr (fun e => absurd e.1 (by decide)), ← hg]
              show _ = kh_up t m _ q
              unfold kh_up
              by_cases e : q = m
              · subst e
                rw [if_pos rfl, kc_ws]
              · rw [if_neg e, kc_wr (fun y => e y.2)]
                exact ht1 q (by omega)
        | succ i ih =>
          intro m t μ1 hm hn1 h19 ht1 hg f1
          refine ks_M_feed_38 <| ks_M_feed_39 (fun h39 => ?_) (fun h39 => ?_)
          · exact absurd h39 (nI_pos (by omega))
          · refine ks_M_feed_42 <| ks_M_feed_43 <| ks_M_feed_46 <| ks_M_feed_47 <| ks_M_feed_50 <| ks_M_feed_51 <| ks_M_feed_53 <| ks_M_feed_54 <| ks_M_feed_55 <| ks_M_feed_56 <| ks_M_feed_59 <| ks_M_feed_60 m hn1 (by omega) <| ks_M_feed_61 <| ks_M_feed_62 rfl <| ks_M_feed_63 <| ks_M_feed_66 <| ks_M_feed_67 <| ks_M_feed_68 <| ks_M_feed_71n rfl <| ks_M_feed_74 ?_
            refine ih (m + 1) (kh_up t m ((x >>> ((8 * nI (i + 1)) &&& 31)) &&& 255)) _ (by omega) ?_ ?_ (fun q hq => ?_) hg ((f1.wI ⟨rfl, Or.inr rfl⟩).wI ⟨rfl, Or.inl rfl⟩)
            · rw [kc_ws, kc_wr (fun q => absurd q.1 (by decide)), hn1, nI_1]
            · rw [kc_wr (fun q => absurd q.2 (by decide)), kc_wr (fun q => absurd q.1 (by decide))]; exact h19
            · rw [kc_wr (fun e => absurd e.1 (by decide))]
              unfold kh_up
              by_cases e : q = m
              · subst e
                rw [if_pos rfl, kc_ws]
              · rw [if_neg e, kc_wr (fun y => e y.2)]
                exact ht1 q (by omega)
      refine ks_M_feed_34 <| ks_M_feed_35 <| ks_M_feed_36 <| ks_M_feed_37 rfl ?_
      obtain ⟨j', rfl⟩ : ∃ j', j = j' + 1 := ⟨j - 1, by omega⟩
      rw [nI_pred]
      exact loop j' (kz_n z) (kz_t z) μ (by omega) ha.n rfl (fun q hq => ha.t q hq) rfl kq_fr.rf
    · rw [ha.n, nI_add, ki_le, nI_toInt (by omega), ki_120] at h24
      rw [if_pos (by omega)] at e0
      rw [e0] at k
      refine ks_M_feed_27 <| ks_M_feed_28 <| ks_M_feed_30 (Nat.le_of_ble_eq_true rfl) ?_
      refine kt_M_fin 1 ha (by decide) (by decide) (fun μ' a1 f1 => ?_)
      refine ks_M_feed_33 ?_
      exact k μ' a1 f1
  · rw [show sp_feed z x n = _ from if_pos (of_decide_eq_false (kq_b_f h6))] at k
    refine ks_M_feed_9 <| ks_M_feed_10 <| ks_M_feed_12 (Nat.le_of_ble_eq_true rfl) ?_
    refine kt_M_fin 0 ha (by decide) (by decide) (fun μ' a1 f1 => ?_)
    refine ks_M_feed_15 ?_
    exact k μ' a1 f1
theorem ko_M_wipe : kM_ct km_M_wipe [] z (sp_wipe z).2 (kq_I (sp_wipe z).1) := by
  intro μ Q ha k
  refine ke_M_wipe ?_
  refine ks_M_wipe_0 <| ks_M_wipe_1 <| ks_M_wipe_4 rfl <| ks_M_wipe_5 <| ks_M_wipe_6 <| ks_M_wipe_7 <| ks_M_wipe_10 <| ks_M_wipe_11 ?_
  rw [ha.n]
  exact k _ (ha.tape (kq_fr.rf.wI ⟨rfl, Or.inl rfl⟩) (kc_wr (fun q => absurd q.2 (by decide))) kc_ws (fun j hj => absurd hj (by omega))) (kq_fr.rf.wI (show 20 ≤ 20 by decide))
theorem kM_at.img {μ μ' : kq_M} {b : Bool} {v : kh_S} (h : kM_at μ z) (hf : kq_fr (fun a b => a = 0 ∧ (b = 20 ∨ b = 30)) μ μ') (h6 : kq_rI μ' 0 20 6 = kq_rI μ 0 20 6) (h19 : kq_rI μ' 0 20 19 = kq_b b) (hk : b = true → kr_at μ' 30 v) : kM_at μ' (kz_setk z b v) := by
  have o : ∀ b, b ≠ 20 → b ≠ 30 → ¬ ((0 : Nat) = 0 ∧ (b = 20 ∨ b = 30)) := fun b h1 h2 q => by omega
  refine ⟨h.h.fr hf (o 21 (by decide) (by decide)), h19, hk, h6.trans h.n, fun j hj => ?_, fun s hs => ?_, fun s hs => ?_, fun s hs j hj => ?_, fun k hk => ?_⟩
  · rw [hf.1 _ _ _ (o 25 (by decide) (by decide))]; exact h.t j hj
  · rw [hf.1 _ _ _ (o 26 (by decide) (by decide))]; exact h.B s hs
  · rw [hf.1 _ _ _ (o 27 (by decide) (by decide))]; exact h.L s hs
  · rw [hf.2.1 _ _ _ (o 28 (by decide) (by decide))]; exact h.N s hs j hj
  · rw [hf.1 _ _ _ (o 22 (by decide) (by decide))]; exact h.f k hk
theorem kM_2030 {μ μ' : kq_M} (h : kq_fr (fun a b => a = 0 ∧ (b = 20 ∨ b = 30)) μ μ') : kq_fr kM_P μ μ' := h.mono (fun a b q => by rcases q.2 with e | e <;> (show 20 ≤ b; omega))
theorem ko_M_image (hz : kz_ok z) : kM_ct km_M_image [] z (sp_image z).2 (kq_I (sp_image z).1) := by
  intro μ Q ha k
  have hc8 := hz.1.1.1
  refine ke_M_image ?_
  refine ks_M_image_0 <| ks_M_image_1 <| ks_M_image_2 <| ks_M_image_3 <| ks_M_image_6 (Nat.le_of_ble_eq_true rfl) ?_
  refine kt_M_keep (i := 30) rfl rfl rfl rfl (by decide) (fun μ1 e1 f1 => ?_)
  refine ks_M_image_9 <| ks_M_image_10 <| ks_M_image_11 <| ks_M_image_14 <| ks_M_image_15 ?_
  have f2 : kq_fr (fun a b => a = 0 ∧ (b = 20 ∨ b = 30)) μ (kq_wI μ1 0 20 19 1) := (f1.mono (fun a b q => ⟨q.1, Or.inr q.2⟩)).wI ⟨rfl, Or.inl rfl⟩
  refine k _ (ha.img f2 ?_ kc_ws (fun _ => ?_)) (kM_2030 f2)
  · rw [kc_wr (fun q => absurd q.2 (by decide))]; exact f1.1 _ _ _ (fun q => by cases q.2)
  · exact (ha.h.cp hc8 e1).fr (P := fun a b => a = 0 ∧ b = 20) (kq_fr.rf.wI ⟨rfl, rfl⟩) (fun q => by cases q.2)
theorem ko_M_undo (hz : kz_ok z) : kM_ct km_M_undo [] z (sp_undo z).2 (kq_I (sp_undo z).1) := by
  intro μ Q ha k
  refine ke_M_undo ?_
  refine ks_M_undo_0 <| ks_M_undo_1 <| ks_M_undo_4 (fun h4 => ?_) (fun h4 => ?_)
  · rw [ha.b] at h4
    have hb := kq_b_t h4
    rw [show sp_undo z = _ from if_neg (by rw [hb]; decide)] at k
    refine ks_M_undo_14 <| ks_M_undo_15 <| ks_M_undo_16 <| ks_M_undo_17 <| ks_M_undo_20 (Nat.le_of_ble_eq_true rfl) ?_
    refine kt_M_back (i := 30) rfl rfl rfl rfl (by decide) (fun μ1 e1 f1 => ?_)
    have a1 := (ha.k hb).cp (hz.2.1 hb).1.1 e1
    refine ks_M_undo_23 <| ks_M_undo_24 <| ks_M_undo_27 <| ks_M_undo_29 <| ks_M_undo_30 ?_
    rw [a1.c]
    have f2 : kM_h μ μ1 := kM_h.st (by decide) f1
    exact k _ (ha.hall a1 f2) f2.P
  · rw [ha.b] at h4
    rw [show sp_undo z = _ from if_pos (kq_b_f h4)] at k
    refine ks_M_undo_7 <| ks_M_undo_8 <| ks_M_undo_10 (Nat.le_of_ble_eq_true rfl) ?_
    refine kt_M_fin 3 ha (by decide) (by decide) (fun μ' a1 f1 => ?_)
    refine ks_M_undo_13 ?_
    exact k μ' a1 f1
theorem ko_M_tear : kM_ct km_M_tear [] z (sp_tear z).2 (kq_I (sp_tear z).1) := by
  intro μ Q ha k
  have main : ∀ o : Option kq_V, kq_S km_M_tear 11 12 [some (kq_R 0 20), o] [kq_I (kq_b (kz_b z))] μ Q := by
    intro o
    refine ks_M_tear_12 rfl <| ks_M_tear_13 <| ks_M_tear_14 <| ks_M_tear_15 <| ks_M_tear_18 <| ks_M_tear_19 ?_
    have f2 : kq_fr (fun a b => a = 0 ∧ (b = 20 ∨ b = 30)) μ (kq_wI μ 0 20 19 0) := kq_fr.rf.wI ⟨rfl, Or.inl rfl⟩
    exact k _ (ha.img f2 (kc_wr (fun q => absurd q.2 (by decide))) kc_ws (fun q => absurd q (by decide))) (kM_2030 f2)
  refine ke_M_tear ?_
  refine ks_M_tear_0 <| ks_M_tear_1 <| ks_M_tear_4 (fun h4 => ?_) (fun h4 => ?_)
  · rw [ha.b] at h4
    have m := main none
    rw [kq_b_f h4] at m
    refine ks_M_tear_11 ?_
    exact m
  · rw [ha.b] at h4
    have m := main none
    rw [kq_b_t h4] at m
    refine ks_M_tear_7 <| ks_M_tear_8 ?_
    exact m
theorem kh_pop_and : ∀ a, a < 256 → a ≠ 0 → (a &&& (a - 1)) < 256 ∧ kh_pop (a &&& (a - 1)) + 1 = kh_pop a := by decide +kernel
theorem kh_pop_0 : ∀ a, a < 256 → kh_pop a = 0 → a = 0 := by decide +kernel
theorem kt_M_bits {d c : Nat} {μ : kq_M} {Q : Option kq_V → kq_M → Prop} (hc : c < 256) (k : Q (some (kq_I (nI (kh_pop c)))) μ) : kq_Call d km_M_bits [kq_I (nI c)] μ Q := by
  have loop : ∀ (q m b : Nat), b < 256 → kh_pop b = q → m + q = kh_pop c → kq_S km_M_bits d 4 [some (kq_I (nI c)), some (kq_I (nI m)), some (kq_I (nI b))] [] μ Q := by
    intro q
    induction q with
    | zero =>
      intro m b hb hq hm
      obtain rfl := kh_pop_0 b hb hq
      refine ks_M_bits_4 <| ks_M_bits_5 (fun h5 => ?_) (fun h5 => ?_)
      · refine ks_M_bits_20 <| ks_M_bits_21 ?_
        rw [show m = kh_pop c by omega]
        exact k
      · exact absurd rfl h5
    | succ q ih =>
      intro m b hb hq hm
      have hb0 : b ≠ 0 := fun e => by rw [e] at hq; exact absurd hq (by have : kh_pop 0 = 0 := rfl; omega)
      have h := kh_pop_and b hb hb0
      refine ks_M_bits_4 <| ks_M_bits_5 (fun h5 => ?_) (fun h5 => ?_)
      · rw [ki_eq, ki_0, nI_toInt (by omega)] at h5
        omega
      · obtain ⟨b', rfl⟩ : ∃ b', b = b' + 1 := ⟨b - 1, by omega⟩
        refine ks_M_bits_8n rfl <| ks_M_bits_11 <| ks_M_bits_12 <| ks_M_bits_13 <| ks_M_bits_14 <| ks_M_bits_15 <| ks_M_bits_16 rfl <| ks_M_bits_17 ?_
        rw [nI_pred, kn_and]
        exact ih (m + 1) _ h.1 (by have := h.2; rw [show b' + 1 - 1 = b' from rfl] at this; omega) (by omega)
  refine ke_M_bits ?_
  refine ks_M_bits_0 <| ks_M_bits_1 rfl <| ks_M_bits_2 <| ks_M_bits_3 rfl ?_
  exact loop _ 0 c hc rfl (by omega)
theorem kt_M_liesOfAll {d : Nat} {μ : kq_M} {v : kh_S} {Q : Option kq_V → kq_M → Prop} (ha : kr_at μ 21 v) (hv : kh_ok v) (k : Q (some (kq_I (nI (kh_liesN v (kh_c v))))) μ) : kq_Call (d + 3) km_M_liesOfAll [kq_R 0 20] μ Q := by
  have hc8 := hv.1
  have loop : ∀ (q i : Nat), i + q = kh_c v → kq_S km_M_liesOfAll (d + 3) 4 [some (kq_R 0 20), some (kq_I (nI (kh_liesN v i))), some (kq_I (nI i))] [] μ Q := by
    intro q
    induction q with
    | zero =>
      intro i hi
      refine ks_M_liesOfAll_4 <| ks_M_liesOfAll_5 <| ks_M_liesOfAll_6 <| ks_M_liesOfAll_9 <| ks_M_liesOfAll_11 <| ks_M_liesOfAll_12 (fun h12 => ?_) (fun h12 => ?_)
      · refine ks_M_liesOfAll_32 <| ks_M_liesOfAll_33 ?_
        rw [show i = kh_c v by omega]
        exact k
      · rw [ha.c] at h12
        exact absurd (nI_le (show kh_c v ≤ i by omega) (by omega)) h12
    | succ q ih =>
      intro i hi
      obtain ⟨l, hl, el⟩ := kh_lie_le hv (show i < kh_c v by omega)
      refine ks_M_liesOfAll_4 <| ks_M_liesOfAll_5 <| ks_M_liesOfAll_6 <| ks_M_liesOfAll_9 <| ks_M_liesOfAll_11 <| ks_M_liesOfAll_12 (fun h12 => ?_) (fun h12 => ?_)
      · rw [ha.c] at h12
        exact absurd h12 (nI_ge (show i < kh_c v by omega) (by omega))
      · refine ks_M_liesOfAll_15 <| ks_M_liesOfAll_16 <| ks_M_liesOfAll_17 <| ks_M_liesOfAll_18 (Nat.le_of_ble_eq_true rfl) ?_
        refine kt_M_lies ha hv (by omega) ?_
        rw [el]
        refine ks_M_liesOfAll_21 (Nat.le_of_ble_eq_true rfl) ?_
        refine kt_M_bits hl ?_
        refine ks_M_liesOfAll_24 <| ks_M_liesOfAll_25 rfl <| ks_M_liesOfAll_26n rfl <| ks_M_liesOfAll_29 ?_
        rw [nI_add]
        have g := ih (i + 1) (by omega)
        rw [show kh_liesN v (i + 1) = kh_liesN v i + kh_pop (kh_nat (kh_lie v i)) from rfl, el, kh_nat_nI (by omega)] at g
        exact g
  refine ke_M_liesOfAll ?_
  refine ks_M_liesOfAll_0 <| ks_M_liesOfAll_1 rfl <| ks_M_liesOfAll_2 <| ks_M_liesOfAll_3 rfl ?_
  exact loop (kh_c v) 0 (by omega)
theorem kt_M_sureOfAll {d : Nat} {μ : kq_M} {v : kh_S} {Q : Option kq_V → kq_M → Prop} (ha : kr_at μ 21 v) (hv : kh_ok v) (k : Q (some (kq_I (kh_sureN v (kh_c v)))) μ) : kq_Call (d + 1) km_M_sureOfAll [kq_R 0 20] μ Q := by
  have hc8 := hv.1
  have loop : ∀ (q i : Nat), i + q = kh_c v → kq_S km_M_sureOfAll (d + 1) 4 [some (kq_R 0 20), some (kq_I (kh_sureN v i)), some (kq_I (nI i))] [] μ Q := by
    intro q
    induction q with
    | zero =>
      intro i hi
      refine ks_M_sureOfAll_4 <| ks_M_sureOfAll_5 <| ks_M_sureOfAll_6 <| ks_M_sureOfAll_9 <| ks_M_sureOfAll_11 <| ks_M_sureOfAll_12 (fun h12 => ?_) (fun h12 => ?_)
      · refine ks_M_sureOfAll_30 <| ks_M_sureOfAll_31 ?_
        rw [show i = kh_c v by omega]
        exact k
      · rw [ha.c] at h12
        exact absurd (nI_le (show kh_c v ≤ i by omega) (by omega)) h12
    | succ q ih =>
      intro i hi
      refine ks_M_sureOfAll_4 <| ks_M_sureOfAll_5 <| ks_M_sureOfAll_6 <| ks_M_sureOfAll_9 <| ks_M_sureOfAll_11 <| ks_M_sureOfAll_12 (fun h12 => ?_) (fun h12 => ?_)
      · rw [ha.c] at h12
        exact absurd h12 (nI_ge (show i < kh_c v by omega) (by omega))
      · refine ks_M_sureOfAll_15 <| ks_M_sureOfAll_16 <| ks_M_sureOfAll_17 <| ks_M_sureOfAll_18 <| ks_M_sureOfAll_19 (Nat.le_of_ble_eq_true rfl) ?_
        refine kt_M_its3 ha hv (by omega) ?_
        refine ks_M_sureOfAll_22 <| ks_M_sureOfAll_23 rfl <| ks_M_sureOfAll_24n rfl <| ks_M_sureOfAll_27 ?_
        exact ih (i + 1) (by omega)
  refine ke_M_sureOfAll ?_
  refine ks_M_sureOfAll_0 <| ks_M_sureOfAll_1 rfl <| ks_M_sureOfAll_2 <| ks_M_sureOfAll_3 rfl ?_
  exact loop (kh_c v) 0 (by omega)
theorem ko_M_count (hz : kz_ok z) : kM_ct km_M_count [kq_I a] z (sp_count z a).2 (kq_I (sp_count z a).1) := by
  intro μ Q ha k
  have hv := hz.1.1
  refine ke_M_count ?_
  refine ks_M_count_0 <| ks_M_count_1 (fun h1 => ?_) (fun h1 => ?_) (fun h1 => ?_) (fun h1 => ?_) (fun h1 => ?_)
  · subst h1
    rw [show sp_count z 0 = _ from if_pos rfl] at k
    refine ks_M_count_32 <| ks_M_count_33 <| ks_M_count_36 <| ks_M_count_38 <| ks_M_count_39 ?_
    rw [ha.h.c]
    exact k _ ha kq_fr.rf
  · subst h1
    rw [show sp_count z 1 = _ from (if_neg (by decide)).trans (if_pos rfl)] at k
    refine ks_M_count_40 <| ks_M_count_41 <| ks_M_count_44 ?_
    rw [ha.n]
    exact k _ ha kq_fr.rf
  · subst h1
    rw [show sp_count z 2 = _ from (if_neg (by decide)).trans ((if_neg (by decide)).trans (if_pos rfl))] at k
    refine ks_M_count_45 <| ks_M_count_46 (Nat.le_of_ble_eq_true rfl) ?_
    refine kt_M_liesOfAll ha.h hv ?_
    refine ks_M_count_49 ?_
    exact k _ ha kq_fr.rf
  · subst h1
    rw [show sp_count z 3 = _ from (if_neg (by decide)).trans ((if_neg (by decide)).trans ((if_neg (by decide)).trans (if_pos rfl)))] at k
    refine ks_M_count_50 <| ks_M_count_51 (Nat.le_of_ble_eq_true rfl) ?_
    refine kt_M_sureOfAll ha.h hv ?_
    refine ks_M_count_54 ?_
    exact k _ ha kq_fr.rf
  · have nn : ∀ y : Int32, 0 ≤ y.toInt → y.toInt ≤ 3 → ¬ a = y := fun y h2 h3 q => by rw [q] at h1; omega
    rw [show sp_count z a = kz_F z 0 from (if_neg (nn 0 (by decide) (by decide))).trans ((if_neg (nn 1 (by decide) (by decide))).trans ((if_neg (nn 2 (by decide) (by decide))).trans (if_neg (nn 3 (by decide) (by decide)))))] at k
    refine ks_M_count_55 <| ks_M_count_56 <| ks_M_count_58 (Nat.le_of_ble_eq_true rfl) ?_
    refine kt_M_fin 0 ha (by decide) (by decide) (fun μ' a1 f1 => ?_)
    refine ks_M_count_61 ?_
    exact k μ' a1 f1
end KM9
