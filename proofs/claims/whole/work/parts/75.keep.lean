/-! EVERY CALL KEEPS THE STATE IN ITS BOUNDS -/
theorem kp_255 (y : Int32) : kh_in (y &&& 255) 0 255 := by
  have e : y &&& 255 = nI (y.toBitVec &&& 255#32).toNat := by
    apply Int32.toBitVec_inj.1
    show y.toBitVec &&& 255#32 = BitVec.ofNat 32 (y.toBitVec &&& 255#32).toNat
    rw [BitVec.ofNat_toNat, BitVec.setWidth_eq]
  rw [e]
  refine kh_in_of 255 ?_ (by decide) ki_255
  rw [BitVec.toNat_and]
  exact Nat.and_le_right
theorem kp_9 {x : Int64} (h : 0 ≤ x ∧ x ≤ 9) : kh_in x.toInt32 0 9 := by
  have h1 : (0 : Int64).toInt ≤ x.toInt := Int64.le_iff_toInt_le.mp h.1
  have h2 : x.toInt ≤ (9 : Int64).toInt := Int64.le_iff_toInt_le.mp h.2
  rw [show (0 : Int64).toInt = 0 from by decide] at h1
  rw [show (9 : Int64).toInt = 9 from by decide] at h2
  have e : x = Int64.ofInt x.toInt := (Int64.ofInt_toInt x).symm
  have hc : x.toInt = 0 ∨ x.toInt = 1 ∨ x.toInt = 2 ∨ x.toInt = 3 ∨ x.toInt = 4 ∨ x.toInt = 5 ∨ x.toInt = 6 ∨ x.toInt = 7 ∨ x.toInt = 8 ∨ x.toInt = 9 := by omega
  rw [e]
  rcases hc with h | h | h | h | h | h | h | h | h | h <;> rw [h] <;> exact ⟨by decide, by decide⟩
theorem kp_5 {x : Int32} (h : 0 ≤ x ∧ x < 6) : kh_in x 0 5 := by
  refine ⟨h.1, ?_⟩
  have := h.2
  rw [ki_lt, ki_6] at this
  rw [ki_le, ki_5]
  omega
section KP
variable {z : kz_S} {w a x n s f b i t to : Int32}
theorem kz_ok.fin (hz : kz_ok z) (k : Nat) : kz_ok (kz_fin z k) := hz
theorem kz_ok.h {v : kh_S} (hz : kz_ok z) (hv : kh_ok v) (hm : kh_m v ≤ 99999) : kz_ok (kz_seth z v) := ⟨⟨hv, hm⟩, hz.2⟩
theorem kz_ok.s {B : Nat → Int32} {L : Nat → Nat} {N : Nat → Nat → Int64} (hz : kz_ok z) (hL : ∀ s, s < 4 → L s ≤ 40) : kz_ok (kz_sets z B L N) := ⟨hz.1, hz.2.1, hz.2.2.1, hz.2.2.2.1, hL⟩
theorem kz_ok.t {m : Nat} {t : Nat → Int32} (hz : kz_ok z) (hm : m ≤ 120) (ht : ∀ j, j < m → kh_in (t j) 0 255) : kz_ok (kz_sett z m t) := ⟨hz.1, hz.2.1, hm, ht, hz.2.2.2.2⟩
theorem kz_ok.opt (hz : kz_ok z) (o : Option Nat) : kz_ok (kz_opt z o).2 := by
  cases o with
  | none => exact hz.fin 3
  | some n => exact hz
theorem kp_truth (hz : kz_ok z) : kz_ok (sp_truth z x).2 := by
  unfold sp_truth
  split
  · next h => exact hz.h (kh_setT_ok hz.1.1 h) hz.1.2
  · exact hz.fin 0
theorem kp_kettle (hz : kz_ok z) : kz_ok (sp_kettle z a x).2 := by
  unfold sp_kettle
  split
  · next h => exact hz.h (kh_setH_ok hz.1.1 h.2) hz.1.2
  · split
    · next h => exact hz.h (kh_setW_ok hz.1.1 h.2) hz.1.2
    · split
      · next h => exact hz.h (kh_setB_ok hz.1.1 h.2) hz.1.2
      · exact hz.fin 0
theorem kp_witness (hz : kz_ok z) : kz_ok (sp_witness z x).2 := by
  have h8 := hz.1.1.1
  unfold sp_witness
  split
  · exact hz.fin 0
  · next h =>
    split
    · exact hz.fin 1
    · next hc => exact hz.h (kh_add_ok hz.1.1 (by omega) (kp_5 (Classical.not_not.mp h)) ⟨by decide, by decide⟩ ⟨by decide, by decide⟩ ⟨by decide, by decide⟩) hz.1.2
theorem kp_of (hz : kz_ok z) : kz_ok (sp_of z w a).2 := by
  unfold sp_of
  repeat' split
  all_goals first | exact hz.fin 0 | exact hz
theorem kp_set (hz : kz_ok z) : kz_ok (sp_set z w a x).2 := by
  unfold sp_set
  split
  · exact hz.fin 0
  · split
    · next h => exact hz.h (kh_setn_ok hz.1.1 h.2) hz.1.2
    · split
      · next h => exact hz.h (kh_sets_ok hz.1.1 h.2) hz.1.2
      · split
        · next h => exact hz.h (kh_setu_ok hz.1.1 h.2) hz.1.2
        · exact hz.fin 0
theorem kp_turn (hz : kz_ok z) : kz_ok (sp_turn z w x).2 := by
  unfold sp_turn
  split
  · exact hz.fin 0
  · next h => exact hz.h (kh_setk_ok hz.1.1 (kp_5 (Classical.not_not.mp (fun q => h (Or.inr q))))) hz.1.2
theorem kp_as (hz : kz_ok z) : kz_ok (sp_as z w x).2 := by
  unfold sp_as
  repeat' split
  all_goals first | exact hz.fin 0 | exact hz.fin 2 | exact hz
theorem kp_heats (hz : kz_ok z) : kz_ok (sp_heats z w f).2 := by
  unfold sp_heats
  split
  · exact hz.fin 0
  · exact hz
theorem kp_ask (hz : kz_ok z) : kz_ok (sp_ask z w f).2 := by
  have h8 := hz.1.1.1
  unfold sp_ask
  split
  · exact hz.fin 0
  · next h =>
    have hw : kh_wi (kz_h z) w = true := by
      cases hq : kh_wi (kz_h z) w with
      | false => exact absurd (Or.inl hq) h
      | true => rfl
    obtain ⟨j, hj, rfl⟩ := kh_wi_ix hz.1.1 hw
    obtain ⟨y, hy, rfl⟩ := kf8 (Classical.not_not.mp (fun q => h (Or.inr q)))
    rw [kh_nat_nI (show j < 2 ^ 31 by omega), kh_nat_nI (show y < 2 ^ 31 by omega)]
    exact hz.h (kh_ans_ok hz.1.1 hj hy) hz.1.2
theorem kp_swap (hz : kz_ok z) : kz_ok (sp_swap z w x).2 := by
  have h8 := hz.1.1.1
  unfold sp_swap
  split
  · exact hz.fin 0
  · next h =>
    have hw : kh_wi (kz_h z) w = true := by
      cases hq : kh_wi (kz_h z) w with
      | false => exact absurd (Or.inl hq) h
      | true => rfl
    have hx : kh_wi (kz_h z) x = true := by
      cases hq : kh_wi (kz_h z) x with
      | false => exact absurd (Or.inr (Or.inl hq)) h
      | true => rfl
    obtain ⟨j, hj, rfl⟩ := kh_wi_ix hz.1.1 hw
    obtain ⟨y, hy, rfl⟩ := kh_wi_ix hz.1.1 hx
    rw [kh_nat_nI (show j < 2 ^ 31 by omega), kh_nat_nI (show y < 2 ^ 31 by omega)]
    exact hz.h (kh_swap_ok hz.1.1 hj hy) hz.1.2
theorem kp_minutes (hz : kz_ok z) : kz_ok (sp_minutes z n).2 := by
  unfold sp_minutes
  split
  · exact hz.fin 0
  · split
    · exact hz.fin 4
    · next h => exact hz.h (kh_pass_ok _ _ hz.1.1 (by omega)) (by rw [kh_pass_m]; omega)
theorem kp_now (hz : kz_ok z) : kz_ok (sp_now z a).2 := by
  unfold sp_now
  repeat' split
  all_goals first | exact hz.fin 0 | exact hz
theorem kp_on (hz : kz_ok z) : kz_ok (sp_on z n a).2 := by
  unfold sp_on
  split
  · exact hz.fin 0
  · exact hz
theorem kp_then (hz : kz_ok z) : kz_ok (sp_then z w n a).2 := by
  unfold sp_then
  split
  · exact hz.fin 0
  · exact hz
theorem kp_boils (hz : kz_ok z) : kz_ok (sp_boils z).2 := hz.opt _
theorem kp_doubts (hz : kz_ok z) : kz_ok (sp_doubts z w).2 := by
  unfold sp_doubts
  split
  · exact hz.fin 0
  · exact hz.opt _
theorem kp_worst (hz : kz_ok z) : kz_ok (sp_worst z w).2 := by
  unfold sp_worst
  split
  · exact hz.fin 0
  · exact hz
theorem kp_turns (hz : kz_ok z) : kz_ok (sp_turns z n).2 := by
  unfold sp_turns
  split
  · exact hz.fin 0
  · split
    · exact hz.fin 3
    · exact hz
theorem kp_sure (hz : kz_ok z) : kz_ok (sp_sure z w n).2 := by
  unfold sp_sure
  split
  · exact hz.fin 0
  · exact hz.opt _
theorem kp_water (hz : kz_ok z) : kz_ok (sp_water z n x).2 := by
  unfold sp_water
  split
  · exact hz.fin 0
  · exact hz.opt _
theorem kp_kind (hz : kz_ok z) : kz_ok (sp_kind z w n).2 := by
  unfold sp_kind
  split
  · exact hz.fin 0
  · exact hz
theorem kp_says (hz : kz_ok z) : kz_ok (sp_says z w n).2 := by
  unfold sp_says
  split
  · exact hz.fin 0
  · exact hz
theorem kp_fact (hz : kz_ok z) : kz_ok (sp_fact z n).2 := by
  unfold sp_fact
  split
  · exact hz.fin 0
  · exact hz
theorem kp_fd (x : Int32) : ∀ (j n : Nat) (t : Nat → Int32), (∀ q, q < n → kh_in (t q) 0 255) → ∀ q, q < n + j → kh_in (kg_feed x j n t q) 0 255
  | 0, n, t, h, q, hq => h q hq
  | j + 1, n, t, h, q, hq => kp_fd x j (n + 1) _ (fun y hy => by
      unfold kh_up
      split
      · exact kp_255 _
      · exact h y (by omega)) q (by omega)
theorem kp_feed (hz : kz_ok z) : kz_ok (sp_feed z x n).2 := by
  unfold sp_feed
  split
  · exact hz.fin 0
  · split
    · exact hz.fin 1
    · next h => exact hz.t (by omega) (kp_fd x _ _ _ hz.2.2.2.1)
theorem kp_wipe (hz : kz_ok z) : kz_ok (sp_wipe z).2 := hz.t (by omega) (fun j hj => absurd hj (by omega))
theorem kp_inquest (hz : kz_ok z) : kz_ok (sp_inquest z).2 := by
  have ok := tk_all_ok (t := kz_t z) hz.2.2.1 121 0 (kz_h z) 0 (by omega) (by have := hz.2.2.1; omega) (by omega) hz.1.1
  unfold sp_inquest
  generalize tk_all (kz_t z) (kz_n z) 121 0 (kz_h z) 0 = R at ok ⊢
  refine kz_ok.t ?_ (by omega) (fun j hj => absurd hj (by omega))
  cases h : R.2 with
  | none => exact hz
  | some v' =>
    have g := (ok.2 v' h).2
    exact hz.h g.1 (by rw [g.2]; exact hz.1.2)
theorem kp_sheet (hz : kz_ok z) : kz_ok (sp_sheet z s b n).2 := by
  unfold sp_sheet
  split
  · exact hz.fin 0
  · split
    · exact hz.fin 6
    · split
      · exact hz.fin 0
      · next h1 h2 =>
        refine hz.s (fun y hy => ?_)
        unfold va_up
        split
        · split
          · omega
          · rw [ki_lt, ki_40] at h2
            unfold kh_nat
            omega
        · exact hz.2.2.2.2 y hy
theorem kp_write {v : Int64} (hz : kz_ok z) : kz_ok (sp_write z s i v).2 := by
  unfold sp_write
  repeat' split
  all_goals first | exact hz.fin 0 | exact hz.fin 5 | exact hz.s hz.2.2.2.2
theorem kp_copy (hz : kz_ok z) : kz_ok (sp_copy z s f t to n).2 := by
  unfold sp_copy
  repeat' split
  all_goals first | exact hz.fin 0 | exact hz.fin 5 | exact hz.fin 2 | exact hz.s hz.2.2.2.2
theorem kp_ly (N : Nat → Int64) : ∀ (j i : Nat) (v : kh_S) (n : Nat), kh_ok v → kh_ok (kg_lays N j i v n).1 ∧ kh_m (kg_lays N j i v n).1 = kh_m v
  | 0, _, v, _, h => ⟨h, rfl⟩
  | j + 1, i, v, n, h => by
    have e : kg_lays N (j + 1) i v n = if 0 ≤ N i ∧ N i ≤ 9 then kg_lays N j (i + 1) (kh_setu v i (N i).toInt32) (n + 1) else kg_lays N j (i + 1) v n := rfl
    rw [e]
    split
    · next hq => exact kp_ly N j (i + 1) _ (n + 1) (kh_setu_ok h (kp_9 hq))
    · exact kp_ly N j (i + 1) v n h
theorem kp_lays (hz : kz_ok z) : kz_ok (sp_lays z s).2 := by
  unfold sp_lays
  split
  · exact hz.fin 0
  · split
    · exact hz.fin 5
    · have g := kp_ly (kz_N z (kh_nat s)) (min (kz_L z (kh_nat s)) (kh_c (kz_h z))) 0 (kz_h z) 0 hz.1.1
      exact hz.h g.1 (by rw [g.2]; exact hz.1.2)
theorem kp_book (hz : kz_ok z) : kz_ok (sp_book z s).2 := by
  unfold sp_book
  repeat' split
  all_goals first | exact hz.fin 0 | exact hz.fin 5 | exact hz.s hz.2.2.2.2
theorem kp_read (hz : kz_ok z) : kz_ok (sp_read z s w).2 := by
  unfold sp_read
  repeat' split
  all_goals first | exact hz.fin 0 | exact hz.fin 5 | exact hz.fin 6 | exact hz
theorem kp_image (hz : kz_ok z) : kz_ok (sp_image z).2 := ⟨hz.1, fun _ => hz.1, hz.2.2⟩
theorem kp_undo (hz : kz_ok z) : kz_ok (sp_undo z).2 := by
  unfold sp_undo
  split
  · exact hz.fin 3
  · next h =>
    have hb : kz_b z = true := by
      cases hq : kz_b z with
      | false => exact absurd hq h
      | true => rfl
    exact hz.h (hz.2.1 hb).1 (hz.2.1 hb).2
theorem kp_tear (hz : kz_ok z) : kz_ok (sp_tear z).2 := ⟨hz.1, fun h => absurd h (by show ¬ false = true; decide), hz.2.2⟩
theorem kp_count (hz : kz_ok z) : kz_ok (sp_count z a).2 := by
  unfold sp_count
  repeat' split
  all_goals first | exact hz.fin 0 | exact hz
theorem kp_status (hz : kz_ok z) : kz_ok (sp_status z a).2 := by
  unfold sp_status
  repeat' split
  all_goals first | exact hz.fin 0 | exact hz
end KP
