/-! EVERY CALL KEEPS THE STATE IN ITS BOUNDS -/
theorem kp_255 (y : Int32) : kh_in (y &&& 255) 0 255 := by
  have e : y &&& 255 = nI (y.toBitVec &&& 255#32).toNat := by
    apply Int32.toBitVec_inj.1
    show y.toBitVec &&& 255#32 = BitVec.ofNat 32 (y.toBitVec &&& 255#32).toNat
    rw [BitVec.ofNat_toNat, BitVec.setWidth_eq]
  rw [e]
  refine kh_in_of 255 ?_ (by decide) ki_255
  rw [BitVec.toNat_and]
  exact Nat.and_le_right
theorem kp_9 {x : Int64} (h : 0 ≤ x ∧ x ≤ 9) : kh_in x.toInt32 0 9 := by
  have h1 : (0 : Int64).toInt ≤ x.toInt := Int64.le_iff_toInt_le.mp h.1
  have h2 : x.toInt ≤ (9 : Int64).toInt := Int64.le_iff_toInt_le.mp h.2
  rw [show (0 : Int64).toInt = 0 from by decide] at h1
  rw [show (9 : Int64).toInt = 9 from by decide] at h2
  have e : x = Int64.ofInt x.toInt := (Int64.ofInt_toInt x).symm
  have hc : x.toInt = 0 ∨ x.toInt = 1 ∨ x.toInt = 2 ∨ x.toInt = 3 ∨ x.toInt = 4 ∨ x.toInt = 5 ∨ x.toInt = 6 ∨ x.toInt = 7 ∨ x.toInt = 8 ∨ x.toInt = 9 := by omega
  rw [e]
  rcases hc with h | h | h | h | h | h | h | h | h | h <;> rw [h] <;> exact ⟨by decide, by decide⟩
theorem kp_5 {x : Int32} (h : 0 ≤ x ∧ x < 6) : kh_in x 0 5 := by
  refine ⟨h.1, ?_⟩
  have := h.2
  rw [ki_lt, ki_6] at this
  rw [ki_le, ki_5]
  omega
section KP0
variable {z : kz_S} {w a x n s f b i t to : Int32}
theorem kz_ok.fin (hz : kz_ok z) (k : Nat) : kz_ok (kz_fin z k) := hz
theorem kz_ok.h {v : kh_S} (hz : kz_ok z) (hv : kh_ok v) (hm : kh_m v ≤ 99999) : kz_ok (kz_seth z v) := ⟨⟨hv, hm⟩, hz.2⟩
theorem kz_ok.s {B : Nat → Int32} {L : Nat → Nat} {N : Nat → Nat → Int64} (hz : kz_ok z) (hL : ∀ s, s < 4 → L s ≤ 40) : kz_ok (kz_sets z B L N) := ⟨hz.1, hz.2.1, hz.2.2.1, hz.2.2.2.1, hL⟩
theorem kz_ok.t {m : Nat} {t : Nat → Int32} (hz : kz_ok z) (hm : m ≤ 120) (ht : ∀ j, j < m → kh_in (t j) 0 255) : kz_ok (kz_sett z m t) := ⟨hz.1, hz.2.1, hm, ht, hz.2.2.2.2⟩
theorem kz_ok.opt (hz : kz_ok z) (o : Option Nat) : kz_ok (kz_opt z o).2 := by
  cases o with
  | none => exact hz.fin 3
  | some n => exact hz
theorem kp_truth (hz : kz_ok z) : kz_ok (sp_truth z x).2 := by
  unfold sp_truth
  split
  · next h => exact hz.h (kh_setT_ok hz.1.1 h) hz.1.2
  · exact hz.fin 0
theorem kp_kettle (hz : kz_ok z) : kz_ok (sp_kettle z a x).2 := by
  unfold sp_kettle
  split
  · next h => exact hz.h (kh_setH_ok hz.1.1 h.2) hz.1.2
  · split
    · next h => exact hz.h (kh_setW_ok hz.1.1 h.2) hz.1.2
    · split
      · next h => exact hz.h (kh_setB_ok hz.1.1 h.2) hz.1.2
      · exact hz.fin 0
theorem kp_witness (hz : kz_ok z) : kz_ok (sp_witness z x).2 := by
  have h8 := hz.1.1.1
  unfold sp_witness
  split
  · exact hz.fin 0
  · next h =>
    split
    · exact hz.fin 1
    · next hc => exact hz.h (kh_add_ok hz.1.1 (by omega) (kp_5 (Classical.not_not.mp h)) ⟨by decide, by decide⟩ ⟨by decide, by decide⟩ ⟨by decide, by decide⟩) hz.1.2
theorem kp_of (hz : kz_ok z) : kz_ok (sp_of z w a).2 := by
  unfold sp_of
  repeat' split
  all_goals first | exact hz.fin 0 | exact hz
theorem kp_set (hz : kz_ok z) : kz_ok (sp_set z w a x).2 := by
  unfold sp_set
  split
  · exact hz.fin 0
  · split
    · next h => exact hz.h (kh_setn_ok hz.1.1 h.2) hz.1.2
    · split
      · next h => exact hz.h (kh_sets_ok hz.1.1 h.2) hz.1.2
      · split
        · next h => exact hz.h (kh_setu_ok hz.1.1 h.2) hz.1.2
        · exact hz.fin 0
theorem kp_turn (hz : kz_ok z) : kz_ok (sp_turn z w x).2 := by
  unfold sp_turn
  split
  · exact hz.fin 0
  · next h => exact hz.h (kh_setk_ok hz.1.1 (kp_5 (Classical.not_not.mp (fun q => h (Or.inr q))))) hz.1.2
theorem kp_as (hz : kz_ok z) : kz_ok (sp_as z w x).2 := by
  unfold sp_as
  repeat' split
  all_goals first | exact hz.fin 0 | exact hz.fin 2 | exact hz
theorem kp_heats (hz : kz_ok z) : kz_ok (sp_heats z w f).2 := by
  unfold sp_heats
  split
  · exact hz.fin 0
  · exact hz
end KP0
