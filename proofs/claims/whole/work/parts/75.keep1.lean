/-! EVERY CALL KEEPS THE STATE IN ITS BOUNDS (1) -/
section KP0
variable {z : kz_S} {w a x n s f b i t to : Int32}
theorem kz_ok.fin (hz : kz_ok z) (k : Nat) : kz_ok (kz_fin z k) := hz
theorem kz_ok.F (hz : kz_ok z) (k : Nat) : kz_ok (kz_F z k).2 := hz.fin k
theorem kz_ok.F6 (hz : kz_ok z) (k : Nat) : kz_ok (kz_F64 z k).2 := hz.fin k
theorem kz_ok.h {v : kh_S} (hz : kz_ok z) (hv : kh_ok v) (hm : kh_m v ≤ 99999) : kz_ok (kz_seth z v) := ⟨⟨hv, hm⟩, hz.2⟩
theorem kz_ok.sh {B : Nat → Int32} {L : Nat → Nat} {N : Nat → Nat → Int64} (hz : kz_ok z) (hL : ∀ s, s < 4 → L s ≤ 40) : kz_ok (kz_sets z B L N) := ⟨hz.1, hz.2.1, hz.2.2.1, hz.2.2.2.1, hL⟩
theorem kz_ok.tp {m : Nat} {t : Nat → Int32} (hz : kz_ok z) (hm : m ≤ 120) (ht : ∀ j, j < m → kh_in (t j) 0 255) : kz_ok (kz_sett z m t) := ⟨hz.1, hz.2.1, hm, ht, hz.2.2.2.2⟩
theorem kz_ok.opt (hz : kz_ok z) (o : Option Nat) : kz_ok (kz_opt z o).2 := by
  cases o with
  | none => exact hz.F 3
  | some n => exact hz
theorem kp_truth (hz : kz_ok z) : kz_ok (sp_truth z x).2 := by
  unfold sp_truth
  split
  · next h => exact hz.h (kh_setT_ok hz.1.1 h) hz.1.2
  · exact hz.F _
theorem kp_kettle (hz : kz_ok z) : kz_ok (sp_kettle z a x).2 := by
  unfold sp_kettle
  split
  · next h => exact hz.h (kh_setH_ok hz.1.1 h.2) hz.1.2
  · split
    · next h => exact hz.h (kh_setW_ok hz.1.1 h.2) hz.1.2
    · split
      · next h => exact hz.h (kh_setB_ok hz.1.1 h.2) hz.1.2
      · exact hz.F _
theorem kp_witness (hz : kz_ok z) : kz_ok (sp_witness z x).2 := by
  have h8 := hz.1.1.1
  unfold sp_witness
  split
  · exact hz.F _
  · next h =>
    split
    · exact hz.F _
    · next hc => exact hz.h (kh_add_ok hz.1.1 (by omega) (kp_5 (Classical.not_not.mp h)) ⟨by decide, by decide⟩ ⟨by decide, by decide⟩ ⟨by decide, by decide⟩) hz.1.2
theorem kp_of (hz : kz_ok z) : kz_ok (sp_of z w a).2 := by
  unfold sp_of
  repeat' split
  all_goals first | with_reducible exact hz.F _ | with_reducible exact hz
theorem kp_set (hz : kz_ok z) : kz_ok (sp_set z w a x).2 := by
  unfold sp_set
  split
  · exact hz.F _
  · split
    · next h => exact hz.h (kh_setn_ok hz.1.1 h.2) hz.1.2
    · split
      · next h => exact hz.h (kh_sets_ok hz.1.1 h.2) hz.1.2
      · split
        · next h => exact hz.h (kh_setu_ok hz.1.1 h.2) hz.1.2
        · exact hz.F _
theorem kp_turn (hz : kz_ok z) : kz_ok (sp_turn z w x).2 := by
  unfold sp_turn
  split
  · exact hz.F _
  · next h => exact hz.h (kh_setk_ok hz.1.1 (kp_5 (Classical.not_not.mp (fun q => h (Or.inr q))))) hz.1.2
theorem kp_as (hz : kz_ok z) : kz_ok (sp_as z w x).2 := by
  unfold sp_as
  repeat' split
  all_goals first | with_reducible exact hz.F _ | with_reducible exact hz
theorem kp_heats (hz : kz_ok z) : kz_ok (sp_heats z w f).2 := by
  unfold sp_heats
  split
  · exact hz.F _
  · exact hz
end KP0
