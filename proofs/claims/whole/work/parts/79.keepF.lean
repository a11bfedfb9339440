/-! EVERY CALL KEEPS THE STATE IN ITS BOUNDS (7) -/
section KP6
variable {z : kz_S} {w a x n s f b i t to : Int32}
theorem kp_lays (hz : kz_ok z) : kz_ok (sp_lays z s).2 := by
  unfold sp_lays
  split
  · exact hz.F _
  · split
    · exact hz.F _
    · have g := kp_ly (kz_N z (kh_nat s)) (min (kz_L z (kh_nat s)) (kh_c (kz_h z))) 0 (kz_h z) 0 hz.1.1
      exact hz.h g.1 (by rw [g.2]; exact hz.1.2)
theorem kp_book (hz : kz_ok z) : kz_ok (sp_book z s).2 := by
  unfold sp_book
  repeat' split
  all_goals first | with_reducible exact hz.F _ | with_reducible exact hz.F6 _ | exact hz.sh hz.2.2.2.2
theorem kp_read (hz : kz_ok z) : kz_ok (sp_read z s w).2 := by
  unfold sp_read
  repeat' split
  all_goals first | with_reducible exact hz.F _ | with_reducible exact hz
theorem kp_image (hz : kz_ok z) : kz_ok (sp_image z).2 := ⟨hz.1, fun _ => hz.1, hz.2.2⟩
theorem kp_undo (hz : kz_ok z) : kz_ok (sp_undo z).2 := by
  unfold sp_undo
  split
  · exact hz.F _
  · next h =>
    have hb : kz_b z = true := by
      cases hq : kz_b z with
      | false => exact absurd hq h
      | true => rfl
    exact hz.h (hz.2.1 hb).1 (hz.2.1 hb).2
theorem kp_tear (hz : kz_ok z) : kz_ok (sp_tear z).2 := ⟨hz.1, fun h => absurd h (by show ¬ false = true; decide), hz.2.2⟩
theorem kp_count (hz : kz_ok z) : kz_ok (sp_count z a).2 := by
  unfold sp_count
  repeat' split
  all_goals first | with_reducible exact hz.F _ | with_reducible exact hz
theorem kp_status (hz : kz_ok z) : kz_ok (sp_status z a).2 := by
  unfold sp_status
  repeat' split
  all_goals first | with_reducible exact hz.F _ | with_reducible exact hz
end KP6
