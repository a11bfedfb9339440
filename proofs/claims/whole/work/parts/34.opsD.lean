/-! WHAT EACH CALL DOES (3): the tape, sheets, images, counts; and that the class does so -/
def kg_feed (x : Int32) : Nat → Nat → (Nat → Int32) → Nat → Int32
  | 0, _, t => t
  | j + 1, n, t => kg_feed x j (n + 1) (kh_up t n ((x >>> ((8 * nI j) &&& 31)) &&& 255))
def sp_feed (z : kz_S) (x n : Int32) : Int32 × kz_S := if ¬ (1 ≤ n ∧ n ≤ 4) then kz_F z 0 else if 120 < kz_n z + kh_nat n then kz_F z 1 else (nI (kz_n z + kh_nat n), kz_sett z (kz_n z + kh_nat n) (kg_feed x (kh_nat n) (kz_n z) (kz_t z)))
def sp_wipe (z : kz_S) : Int32 × kz_S := (nI (kz_n z), kz_sett z 0 (kz_t z))
def sp_sheet (z : kz_S) (s b n : Int32) : Int32 × kz_S :=
  if ¬ (0 ≤ s ∧ s < 4) ∨ ¬ (b = 0 ∨ b = 8 ∨ b = 16 ∨ b = 64) then kz_F z 0 else if n < 0 then kz_F z 6 else if 40 < n then kz_F z 0
  else (nI (if b = 0 then 0 else kh_nat n), kz_sets z (kh_up (kz_B z) (kh_nat s) b) (va_up (kz_L z) (kh_nat s) (if b = 0 then 0 else kh_nat n)) (va_up (kz_N z) (kh_nat s) (fun _ => 0)))
def kg_nar (b : Int32) (v : Int64) : Int64 := if b = 8 then v.toInt32.toInt8.toInt32.toInt64 else if b = 16 then v.toInt32.toInt16.toInt32.toInt64 else v
def kz_F64 (z : kz_S) (k : Nat) : Int64 × kz_S := ((kz_code k).toInt64, kz_fin z k)
def sp_write (z : kz_S) (s i : Int32) (v : Int64) : Int64 × kz_S :=
  if ¬ (0 ≤ s ∧ s < 4) then kz_F64 z 0 else if kz_B z (kh_nat s) = 0 then kz_F64 z 5 else if ¬ (0 ≤ i ∧ i < nI (kz_L z (kh_nat s))) then kz_F64 z 0
  else (kz_N z (kh_nat s) (kh_nat i), kz_sets z (kz_B z) (kz_L z) (va_up (kz_N z) (kh_nat s) (va_up (kz_N z (kh_nat s)) (kh_nat i) (kg_nar (kz_B z (kh_nat s)) v))))
def kg_str (L : Nat) (f n : Int32) : Bool := decide (0 ≤ f ∧ 0 ≤ n ∧ n ≤ nI L ∧ f ≤ nI L - n)
def kg_cpy (N : Nat → Nat → Int64) (s f t to n : Nat) : Nat → Nat → Int64 := va_up N t (fun j => if to ≤ j ∧ j < to + n then N s (f + (j - to)) else N t j)
def sp_copy (z : kz_S) (s f t to n : Int32) : Int32 × kz_S :=
  if ¬ ((0 ≤ s ∧ s < 4) ∧ (0 ≤ t ∧ t < 4)) then kz_F z 0 else if kz_B z (kh_nat s) = 0 ∨ kz_B z (kh_nat t) = 0 then kz_F z 5 else if ¬ kz_B z (kh_nat s) = kz_B z (kh_nat t) then kz_F z 2
  else if ¬ (kg_str (kz_L z (kh_nat s)) f n = true ∧ kg_str (kz_L z (kh_nat t)) to n = true) then kz_F z 0 else (n, kz_sets z (kz_B z) (kz_L z) (kg_cpy (kz_N z) (kh_nat s) (kh_nat f) (kh_nat t) (kh_nat to) (kh_nat n)))
def kg_lays (N : Nat → Int64) : Nat → Nat → kh_S → Nat → kh_S × Nat
  | 0, _, v, n => (v, n)
  | j + 1, i, v, n => if 0 ≤ N i ∧ N i ≤ 9 then kg_lays N j (i + 1) (kh_setu v i (N i).toInt32) (n + 1) else kg_lays N j (i + 1) v n
def sp_lays (z : kz_S) (s : Int32) : Int32 × kz_S := if ¬ (0 ≤ s ∧ s < 4) then kz_F z 0 else if kz_B z (kh_nat s) = 0 then kz_F z 5 else
  (nI (kg_lays (kz_N z (kh_nat s)) (min (kz_L z (kh_nat s)) (kh_c (kz_h z))) 0 (kz_h z) 0).2, kz_seth z (kg_lays (kz_N z (kh_nat s)) (min (kz_L z (kh_nat s)) (kh_c (kz_h z))) 0 (kz_h z) 0).1)
def sp_book (z : kz_S) (s : Int32) : Int32 × kz_S := if ¬ (0 ≤ s ∧ s < 4) then kz_F z 0 else if kz_B z (kh_nat s) = 0 then kz_F z 5 else
  (nI (kz_L z (kh_nat s)), kz_sets z (kz_B z) (kz_L z) (va_up (kz_N z) (kh_nat s) (fun j => if j < kz_L z (kh_nat s) then (kh_H (kh_pass j (kz_h z))).toInt64 else kz_N z (kh_nat s) j)))
def kg_cnt (P : Nat → Bool) : Nat → Nat
  | 0 => 0
  | n + 1 => kg_cnt P n + (if P n then 1 else 0)
def sp_read (z : kz_S) (s w : Int32) : Int32 × kz_S := if ¬ (0 ≤ s ∧ s < 4) then kz_F z 0 else if kz_B z (kh_nat s) = 0 then kz_F z 5 else if kh_wi (kz_h z) w = false then kz_F z 0 else if 12 < kz_L z (kh_nat s) then kz_F z 6 else
  (nI (kg_cnt (fun q => kh_goes (kz_N z (kh_nat s)) (kz_L z (kh_nat s)) 0 (kh_setn (kh_setk (kz_h z) (kh_nat w) (nI (q / 256))) (kh_nat w) (nI (q % 256)))) 1536), z)
def sp_image (z : kz_S) : Int32 × kz_S := (1, kz_setk z true (kz_h z))
def sp_undo (z : kz_S) : Int32 × kz_S := if kz_b z = false then kz_F z 3 else (nI (kh_c (kz_k z)), kz_seth z (kz_k z))
def sp_tear (z : kz_S) : Int32 × kz_S := (kq_b (kz_b z), kz_setk z false (kz_k z))
def sp_count (z : kz_S) (a : Int32) : Int32 × kz_S := if a = 0 then (nI (kh_c (kz_h z)), z) else if a = 1 then (nI (kz_n z), z) else if a = 2 then (nI (kh_liesN (kz_h z) (kh_c (kz_h z))), z) else if a = 3 then (kh_sureN (kz_h z) (kh_c (kz_h z)), z) else kz_F z 0
def kg_sum (f : Nat → Int32) : Nat → Int32
  | 0 => 0
  | n + 1 => kg_sum f n + f n
def sp_status (z : kz_S) (a : Int32) : Int32 × kz_S := if a = -1 then (kg_sum (kz_f z) 7, z) else if 0 ≤ a ∧ a < 7 then (kz_f z (kh_nat a), z) else kz_F z 0
section KO4
variable {z : kz_S} {w n a x s b i : Int32}
theorem kK_at.tape {μ μ' : kq_M} {m : Nat} {t : Nat → Int32} (h : kK_at μ z) (hf : kq_fr (fun a b => a = 0 ∧ (b = 6 ∨ b = 7)) μ μ') (hn : kq_rI μ' 0 6 1 = nI m) (ht : ∀ j, j < m → kq_rI μ' 0 7 j = t j) : kK_at μ' (kz_sett z m t) := by
  have o : ∀ a b, b ≠ 6 → b ≠ 7 → ¬ (a = 0 ∧ (b = 6 ∨ b = 7)) := fun a b h1 h2 q => by rcases q.2 with e | e; exact h1 e; exact h2 e
  refine ⟨h.h.fr hf (fun b h1 h2 q => by rcases q.2 with e | e <;> omega), ?_, fun hb => (h.k hb).fr hf (fun b h1 h2 q => by rcases q.2 with e | e <;> omega), hn, ht, fun s hs => ?_, fun s hs => ?_, fun s hs j hj => ?_, fun k hk => ?_⟩
  · rw [hf.1 _ _ _ (o 0 0 (by decide) (by decide))]; exact h.b
  · rw [hf.1 _ _ _ (o s 8 (by decide) (by decide))]; exact h.B s hs
  · rw [hf.1 _ _ _ (o s 8 (by decide) (by decide))]; exact h.L s hs
  · rw [hf.2.1 _ _ _ (o s 9 (by decide) (by decide))]; exact h.N s hs j hj
  · rw [hf.1 _ _ _ (o 0 11 (by decide) (by decide))]; exact h.f k hk
theorem kt_C_append {d m : Nat} {μ : kq_M} {y : Int32} {Q : Option kq_V → kq_M → Prop} (hn : kq_rI μ 0 6 1 = nI m) (hm : m < 120) (k : Q none (kq_wI (kq_wI μ 0 7 m y) 0 6 1 (nI (m + 1)))) : kq_Call d km_C_append [kq_R 0 6, kq_I y] μ Q := by
  refine ke_C_append ?_
  refine ks_C_append_0 <| ks_C_append_1 <| ks_C_append_4 <| ks_C_append_5 <| ks_C_append_8 <| ks_C_append_9 m hn hm <| ks_C_append_10 <| ks_C_append_11 rfl <| ks_C_append_12 <| ks_C_append_15 <| ks_C_append_16 <| ks_C_append_17 <| ks_C_append_20 ?_
  rw [kc_wr (fun q => absurd q.1 (by decide)), hn, nI_1]
  exact k
theorem ko_K_feed (hz : kz_ok z) : kK_ct km_K_feed [kq_I x, kq_I n] z (sp_feed z x n).2 (kq_I (sp_feed z x n).1) := by
  intro μ Q ha k
  have hl := hz.2.2.1
  refine ke_K_feed ?_
  refine ks_K_feed_0 <| ks_K_feed_1 <| ks_K_feed_2 <| ks_K_feed_3 (Nat.le_of_ble_eq_true rfl) ?_
  refine kt_K_isWithin ?_
  refine ks_K_feed_6 (fun h6 => ?_) (fun h6 => ?_)
  · have h := of_decide_eq_true (kq_b_t h6)
    have e0 : sp_feed z x n = _ := if_neg (fun q => q h)
    obtain ⟨j, hj, rfl⟩ := kn_of_le (c := 4) (by decide) (by decide) h
    rw [kh_nat_nI (by omega)] at e0
    rw [ki_1] at hj
    refine ks_K_feed_15 <| ks_K_feed_16 <| ks_K_feed_19 <| ks_K_feed_22 <| ks_K_feed_23 <| ks_K_feed_24 <| ks_K_feed_26 (fun h26 => ?_) (fun h26 => ?_)
    · rw [ha.n, nI_add, ki_le, nI_toInt (by omega), ki_120] at h26
      rw [if_neg (by omega)] at e0
      rw [e0] at k
      have out : ∀ (y : Int32) (μ1 : kq_M), y < 0 → kq_rI μ1 0 6 1 = nI (kz_n z + j) → (∀ q, q < kz_n z + j → kq_rI μ1 0 7 q = kg_feed x j (kz_n z) (kz_t z) q) → kq_fr (fun a b => a = 0 ∧ (b = 6 ∨ b = 7)) μ μ1 → kq_S km_K_feed 11 39 [some (kq_R 0 0), some (kq_I x), some (kq_I (nI j)), some (kq_I y)] [] μ1 Q := by
        intro y μ1 hy hn1 ht1 f1
        refine ks_K_feed_39 <| ks_K_feed_40 (fun h40 => ?_) (fun h40 => ?_)
        · refine ks_K_feed_66 <| ks_K_feed_67 <| ks_K_feed_70 <| ks_K_feed_73 ?_
          rw [hn1]
          exact k μ1 (ha.tape f1 hn1 ht1) (f1.mono (fun a b q => by rcases q.2 with e | e <;> (show b ≤ 11; omega)))
        · exact absurd hy h40
      have loop : ∀ (i m : Nat) (t : Nat → Int32) (μ1 : kq_M), m + i + 1 = kz_n z + j → kq_rI μ1 0 6 1 = nI m → (∀ q, q < m → kq_rI μ1 0 7 q = t q) → kg_feed x (i + 1) m t = kg_feed x j (kz_n z) (kz_t z) → kq_fr (fun a b => a = 0 ∧ (b = 6 ∨ b = 7)) μ μ1 → kq_S km_K_feed 11 39 [some (kq_R 0 0), some (kq_I x), some (kq_I (nI j)), some (kq_I (nI i))] [] μ1 Q := by
        intro i
        induction i with
        | zero =>
          intro m t μ1 hm hn1 ht1 hg f1
          refine ks_K_feed_39 <| ks_K_feed_40 (fun h40 => ?_) (fun h40 => ?_)
          · exact absurd h40 (by decide)
          · refine ks_K_feed_43 <| ks_K_feed_44 <| ks_K_feed_47 <| ks_K_feed_48 <| ks_K_feed_50 <| ks_K_feed_51 <| ks_K_feed_52 <| ks_K_feed_53 <| ks_K_feed_56 <| ks_K_feed_57 (Nat.le_of_ble_eq_true rfl) ?_
            refine kt_C_append hn1 (by omega) ?_
            refine ks_K_feed_60 rfl <| ks_K_feed_63 ?_
            refine out _ _ (by decide) ?_ (fun q hq => ?_) ((f1.wI ⟨rfl, Or.inr rfl⟩).wI ⟨rfl, Or.inl rfl⟩)
            · rw [kc_ws, show m + 1 = kz_n z + j by omega]
            · rw [kc_wr (fun e => absurd e.1 (by decide)), ← hg]
              show _ = kh_up t m _ q
              unfold kh_up
              by_cases e : q = m
              · subst e
                rw [if_pos rfl, kc_ws]
              · rw [if_neg e, kc_wr (fun y => e y.2)]
                exact ht1 q (by omega)
        | succ i ih =>
          intro m t μ1 hm hn1 ht1 hg f1
          refine ks_K_feed_39 <| ks_K_feed_40 (fun h40 => ?_) (fun h40 => ?_)
          · exact absurd h40 (nI_pos (by omega))
          · refine ks_K_feed_43 <| ks_K_feed_44 <| ks_K_feed_47 <| ks_K_feed_48 <| ks_K_feed_50 <| ks_K_feed_51 <| ks_K_feed_52 <| ks_K_feed_53 <| ks_K_feed_56 <| ks_K_feed_57 (Nat.le_of_ble_eq_true rfl) ?_
            refine kt_C_append hn1 (by omega) ?_
            refine ks_K_feed_60n rfl <| ks_K_feed_63 ?_
            refine ih (m + 1) (kh_up t m ((x >>> ((8 * nI (i + 1)) &&& 31)) &&& 255)) _ (by omega) kc_ws (fun q hq => ?_) hg ((f1.wI ⟨rfl, Or.inr rfl⟩).wI ⟨rfl, Or.inl rfl⟩)
            rw [kc_wr (fun e => absurd e.1 (by decide))]
            unfold kh_up
            by_cases e : q = m
            · subst e
              rw [if_pos rfl, kc_ws]
            · rw [if_neg e, kc_wr (fun y => e y.2)]
              exact ht1 q (by omega)
      refine ks_K_feed_35 <| ks_K_feed_36 <| ks_K_feed_37 <| ks_K_feed_38 rfl ?_
      obtain ⟨j', rfl⟩ : ∃ j', j = j' + 1 := ⟨j - 1, by omega⟩
      rw [nI_pred]
      exact loop j' (kz_n z) (kz_t z) μ (by omega) ha.n (fun q hq => ha.t q hq) rfl kq_fr.rf
    · rw [ha.n, nI_add, ki_le, nI_toInt (by omega), ki_120] at h26
      rw [if_pos (by omega)] at e0
      rw [e0] at k
      refine ks_K_feed_29 <| ks_K_feed_30 <| ks_K_feed_31 (Nat.le_of_ble_eq_true rfl) ?_
      refine kt_K_fin 1 ha (by decide) (fun μ' a1 f1 => ?_)
      refine ks_K_feed_34 ?_
      exact k μ' a1 f1
  · have h := of_decide_eq_false (kq_b_f h6)
    rw [show sp_feed z x n = _ from if_pos h] at k
    refine ks_K_feed_9 <| ks_K_feed_10 <| ks_K_feed_11 (Nat.le_of_ble_eq_true rfl) ?_
    refine kt_K_fin 0 ha (by decide) (fun μ' a1 f1 => ?_)
    refine ks_K_feed_14 ?_
    exact k μ' a1 f1
theorem ko_K_wipe : kK_ct km_K_wipe [] z (sp_wipe z).2 (kq_I (sp_wipe z).1) := by
  intro μ Q ha k
  refine ke_K_wipe ?_
  refine ks_K_wipe_0 <| ks_K_wipe_1 <| ks_K_wipe_4 <| ks_K_wipe_7 rfl <| ks_K_wipe_8 <| ks_K_wipe_9 <| ks_K_wipe_12 <| ks_K_wipe_13 <| ks_K_wipe_16 <| ks_K_wipe_17 ?_
  rw [ha.n]
  refine k _ (ha.tape (kq_fr.rf.wI ⟨rfl, Or.inl rfl⟩) kc_ws (fun j hj => absurd hj (by omega))) (kq_fr.rf.wI (show (6 : Nat) ≤ 11 by decide))
theorem ko_K_image (hz : kz_ok z) : kK_ct km_K_image [] z (sp_image z).2 (kq_I (sp_image z).1) := by
  intro μ Q ha k
  refine ke_K_image ?_
  refine ks_K_image_0 <| ks_K_image_1 <| ks_K_image_4 <| ks_K_image_5 <| ks_K_image_8 (by first | rfl | assumption) (Nat.le_of_ble_eq_true rfl) ?_
  refine kt_H_become rfl rfl (by decide) ha.h hz.1.1 (fun μ1 a1 f1 => ?_)
  refine ks_K_image_11 <| ks_K_image_12 <| ks_K_image_13 <| ks_K_image_16 <| ks_K_image_17 ?_
  have f2 : kq_fr (fun a b => (a = 3 ∧ 1 ≤ b ∧ b ≤ 5) ∨ (a = 0 ∧ b = 0)) μ (kq_wI μ1 0 0 3 1) := (f1.mono (fun a b q => Or.inl q)).wI (Or.inr ⟨rfl, rfl⟩)
  have nn : ∀ a b, b ≠ 0 → ¬ (1 ≤ b ∧ b ≤ 5) → ¬ ((a = 3 ∧ 1 ≤ b ∧ b ≤ 5) ∨ (a = 0 ∧ b = 0)) := fun a b h0 h1 q => by rcases q with e | e; exact h1 e.2; exact h0 e.2
  refine k _ ⟨ha.h.fr f2 (fun b h1 h2 q => by rcases q with e | e <;> omega), ?_, fun _ => ?_, ?_, fun j hj => ?_, fun s hs => ?_, fun s hs => ?_, fun s hs j hj => ?_, fun k hk => ?_⟩ (f2.mono (fun a b q => by rcases q with e | e <;> (show b ≤ 11; omega)))
  · exact kc_ws
  · refine a1.fr (P := fun a b => a = 0 ∧ b = 0) (kq_fr.rf.wI ⟨rfl, rfl⟩) (fun b h1 h2 q => by omega)
  · rw [f2.1 _ _ _ (nn 0 6 (by decide) (by omega))]; exact ha.n
  · rw [f2.1 _ _ _ (nn 0 7 (by decide) (by omega))]; exact ha.t j hj
  · rw [f2.1 _ _ _ (nn s 8 (by decide) (by omega))]; exact ha.B s hs
  · rw [f2.1 _ _ _ (nn s 8 (by decide) (by omega))]; exact ha.L s hs
  · rw [f2.2.1 _ _ _ (nn s 9 (by decide) (by omega))]; exact ha.N s hs j hj
  · rw [f2.1 _ _ _ (nn 0 11 (by decide) (by omega))]; exact ha.f k hk
theorem ko_K_undo (hz : kz_ok z) : kK_ct km_K_undo [] z (sp_undo z).2 (kq_I (sp_undo z).1) := by
  intro μ Q ha k
  refine ke_K_undo ?_
  refine ks_K_undo_0 <| ks_K_undo_1 <| ks_K_undo_4 (fun h4 => ?_) (fun h4 => ?_)
  · rw [ha.b] at h4
    have hb := kq_b_t h4
    rw [show sp_undo z = _ from if_neg (by rw [hb]; decide)] at k
    refine ks_K_undo_13 <| ks_K_undo_14 <| ks_K_undo_17 <| ks_K_undo_18 <| ks_K_undo_21 (by first | rfl | assumption) (Nat.le_of_ble_eq_true rfl) ?_
    refine kt_H_become rfl rfl (by decide) (ha.k hb) (hz.2.1 hb).1 (fun μ1 a1 f1 => ?_)
    refine ks_K_undo_24 <| ks_K_undo_25 <| ks_K_undo_28 (by first | rfl | assumption) <| ks_K_undo_31 ?_
    rw [a1.c]
    exact k _ (ha.hall a1 (kK_fr1 f1)) (kK_frP (kK_fr1 f1))
  · rw [ha.b] at h4
    rw [show sp_undo z = _ from if_pos (kq_b_f h4)] at k
    refine ks_K_undo_7 <| ks_K_undo_8 <| ks_K_undo_9 (Nat.le_of_ble_eq_true rfl) ?_
    refine kt_K_fin 3 ha (by decide) (fun μ' a1 f1 => ?_)
    refine ks_K_undo_12 ?_
    exact k μ' a1 f1
theorem ko_K_tear : kK_ct km_K_tear [] z (sp_tear z).2 (kq_I (sp_tear z).1) := by
  intro μ Q ha k
  have main : ∀ o : Option kq_V, kq_S km_K_tear 11 12 [some (kq_R 0 0), o] [kq_I (kq_b (kz_b z))] μ Q := by
    intro o
    refine ks_K_tear_12 rfl <| ks_K_tear_13 <| ks_K_tear_14 <| ks_K_tear_15 <| ks_K_tear_18 <| ks_K_tear_19 ?_
    have f2 : kq_fr (fun a b => a = 0 ∧ b = 0) μ (kq_wI μ 0 0 3 0) := kq_fr.rf.wI ⟨rfl, rfl⟩
    have nn : ∀ a b, b ≠ 0 → ¬ (a = 0 ∧ b = 0) := fun a b h0 q => h0 q.2
    refine k _ ⟨ha.h.fr f2 (fun b h1 h2 q => by omega), kc_ws, fun q => absurd q (by show ¬ (false = true); decide), ?_, fun j hj => ?_, fun s hs => ?_, fun s hs => ?_, fun s hs j hj => ?_, fun k hk => ?_⟩ (f2.mono (fun a b q => by show b ≤ 11; omega))
    · rw [f2.1 _ _ _ (nn 0 6 (by decide))]; exact ha.n
    · rw [f2.1 _ _ _ (nn 0 7 (by decide))]; exact ha.t j hj
    · rw [f2.1 _ _ _ (nn s 8 (by decide))]; exact ha.B s hs
    · rw [f2.1 _ _ _ (nn s 8 (by decide))]; exact ha.L s hs
    · rw [f2.2.1 _ _ _ (nn s 9 (by decide))]; exact ha.N s hs j hj
    · rw [f2.1 _ _ _ (nn 0 11 (by decide))]; exact ha.f k hk
  refine ke_K_tear ?_
  refine ks_K_tear_0 <| ks_K_tear_1 <| ks_K_tear_4 (fun h4 => ?_) (fun h4 => ?_)
  · rw [ha.b] at h4
    have m := main none
    rw [kq_b_f h4] at m
    refine ks_K_tear_11 ?_
    exact m
  · rw [ha.b] at h4
    have m := main none
    rw [kq_b_t h4] at m
    refine ks_K_tear_7 <| ks_K_tear_8 ?_
    exact m
theorem ko_K_count (hz : kz_ok z) : kK_ct km_K_count [kq_I a] z (sp_count z a).2 (kq_I (sp_count z a).1) := by
  intro μ Q ha k
  have hv := hz.1.1
  refine ke_K_count ?_
  refine ks_K_count_0 <| ks_K_count_1 (fun h1 => ?_) (fun h1 => ?_) (fun h1 => ?_) (fun h1 => ?_) (fun h1 => ?_)
  · subst h1
    rw [show sp_count z 0 = _ from if_pos rfl] at k
    refine ks_K_count_32 <| ks_K_count_33 <| ks_K_count_36 (by first | rfl | assumption) <| ks_K_count_39 ?_
    rw [ha.h.c]
    exact k _ ha kq_fr.rf
  · subst h1
    rw [show sp_count z 1 = _ from (if_neg (by decide)).trans (if_pos rfl)] at k
    refine ks_K_count_40 <| ks_K_count_41 <| ks_K_count_44 <| ks_K_count_47 ?_
    rw [ha.n]
    exact k _ ha kq_fr.rf
  · subst h1
    rw [show sp_count z 2 = _ from (if_neg (by decide)).trans ((if_neg (by decide)).trans (if_pos rfl))] at k
    refine ks_K_count_48 <| ks_K_count_49 <| ks_K_count_52 (by first | rfl | assumption) (Nat.le_of_ble_eq_true rfl) ?_
    refine kt_H_allLies rfl ha.h hv ?_
    refine ks_K_count_55 ?_
    exact k _ ha kq_fr.rf
  · subst h1
    rw [show sp_count z 3 = _ from (if_neg (by decide)).trans ((if_neg (by decide)).trans ((if_neg (by decide)).trans (if_pos rfl)))] at k
    refine ks_K_count_56 <| ks_K_count_57 <| ks_K_count_60 (by first | rfl | assumption) (Nat.le_of_ble_eq_true rfl) ?_
    refine kt_H_allSure rfl ha.h hv ?_
    refine ks_K_count_63 ?_
    exact k _ ha kq_fr.rf
  · have nn : ∀ y : Int32, 0 ≤ y.toInt → y.toInt ≤ 3 → ¬ a = y := fun y h2 h3 q => by rw [q] at h1; omega
    rw [show sp_count z a = kz_F z 0 from (if_neg (nn 0 (by decide) (by decide))).trans ((if_neg (nn 1 (by decide) (by decide))).trans ((if_neg (nn 2 (by decide) (by decide))).trans (if_neg (nn 3 (by decide) (by decide)))))] at k
    refine ks_K_count_64 <| ks_K_count_65 <| ks_K_count_66 (Nat.le_of_ble_eq_true rfl) ?_
    refine kt_K_fin 0 ha (by decide) (fun μ' a1 f1 => ?_)
    refine ks_K_count_69 ?_
    exact k μ' a1 f1
theorem ko_K_status : kK_ct km_K_status [kq_I a] z (sp_status z a).2 (kq_I (sp_status z a).1) := by
  intro μ Q ha k
  refine ke_K_status ?_
  refine ks_K_status_0 <| ks_K_status_1 <| ks_K_status_2 (fun h2 => ?_) (fun h2 => ?_)
  · have fin : ¬ (0 ≤ a ∧ a < 7) → kq_S km_K_status 11 42 [some (kq_R 0 0), some (kq_I a), none, none] [] μ Q := by
      intro h
      rw [show sp_status z a = kz_F z 0 from (if_neg h2).trans (if_neg h)] at k
      refine ks_K_status_42 <| ks_K_status_43 <| ks_K_status_44 (Nat.le_of_ble_eq_true rfl) ?_
      refine kt_K_fin 0 ha (by decide) (fun μ' a1 f1 => ?_)
      refine ks_K_status_47 ?_
      exact k μ' a1 f1
    refine ks_K_status_32 <| ks_K_status_33 (fun h33 => ?_) (fun h33 => ?_)
    · exact fin (fun q => by rw [ki_lt, ki_0] at h33; have := q.1; rw [ki_le, ki_0] at this; omega)
    · refine ks_K_status_36 <| ks_K_status_37 <| ks_K_status_39 (fun h39 => ?_) (fun h39 => ?_)
      · have h : 0 ≤ a ∧ a < 7 := ⟨by rw [ki_le, ki_0]; rw [ki_lt, ki_0] at h33; omega, h39⟩
        have e0 : sp_status z a = _ := (if_neg h2).trans (if_pos h)
        obtain ⟨j, hj, rfl⟩ := kh_ix (c := 7) (by decide) h
        rw [kh_nat_nI (by omega)] at e0
        rw [e0] at k
        refine ks_K_status_48 <| ks_K_status_49 <| ks_K_status_52 <| ks_K_status_53n (by omega) <| ks_K_status_54 ?_
        rw [ha.f j hj]
        exact k _ ha kq_fr.rf
      · exact fin (fun q => h39 q.2)
  · rw [show sp_status z a = _ from if_pos h2] at k
    have loop : ∀ (j i : Nat), i + j = 7 → kq_S km_K_status 11 9 [some (kq_R 0 0), some (kq_I a), some (kq_I (kg_sum (kz_f z) i)), some (kq_I (nI i))] [] μ Q := by
      intro j
      induction j with
      | zero =>
        intro i hi
        refine ks_K_status_9 <| ks_K_status_10 <| ks_K_status_12 (fun h12 => ?_) (fun h12 => ?_)
        · refine ks_K_status_30 <| ks_K_status_31 ?_
          rw [show i = 7 by omega]
          exact k _ ha kq_fr.rf
        · exact absurd (show (7 : Int32) ≤ nI i by rw [ki_le, ki_7, nI_toInt (by omega)]; omega) h12
      | succ j ih =>
        intro i hi
        refine ks_K_status_9 <| ks_K_status_10 <| ks_K_status_12 (fun h12 => ?_) (fun h12 => ?_)
        · rw [ki_le, ki_7, nI_toInt (by omega)] at h12
          omega
        · refine ks_K_status_15 <| ks_K_status_16 <| ks_K_status_17 <| ks_K_status_20 <| ks_K_status_21n (by omega) <| ks_K_status_22 <| ks_K_status_23 rfl <| ks_K_status_24n rfl <| ks_K_status_27 ?_
          rw [ha.f i (by omega)]
          exact ih (i + 1) (by omega)
    refine ks_K_status_5 <| ks_K_status_6 rfl <| ks_K_status_7 <| ks_K_status_8 rfl ?_
    exact loop 7 0 rfl
end KO4
