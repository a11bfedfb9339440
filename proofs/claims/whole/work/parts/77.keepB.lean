/-! EVERY CALL KEEPS THE STATE IN ITS BOUNDS (3) -/
section KP2
variable {z : kz_S} {w a x n s f b i t to : Int32}
theorem kp_boils (hz : kz_ok z) : kz_ok (sp_boils z).2 := hz.opt _
theorem kp_doubts (hz : kz_ok z) : kz_ok (sp_doubts z w).2 := by
  unfold sp_doubts
  split
  · exact hz.F _
  · exact hz.opt _
theorem kp_worst (hz : kz_ok z) : kz_ok (sp_worst z w).2 := by
  unfold sp_worst
  split
  · exact hz.F _
  · exact hz
theorem kp_turns (hz : kz_ok z) : kz_ok (sp_turns z n).2 := by
  unfold sp_turns
  split
  · exact hz.F _
  · split
    · exact hz.F _
    · exact hz
theorem kp_sure (hz : kz_ok z) : kz_ok (sp_sure z w n).2 := by
  unfold sp_sure
  split
  · exact hz.F _
  · exact hz.opt _
theorem kp_water (hz : kz_ok z) : kz_ok (sp_water z n x).2 := by
  unfold sp_water
  split
  · exact hz.F _
  · exact hz.opt _
theorem kp_kind (hz : kz_ok z) : kz_ok (sp_kind z w n).2 := by
  unfold sp_kind
  split
  · exact hz.F _
  · exact hz
theorem kp_says (hz : kz_ok z) : kz_ok (sp_says z w n).2 := by
  unfold sp_says
  split
  · exact hz.F _
  · exact hz
theorem kp_fact (hz : kz_ok z) : kz_ok (sp_fact z n).2 := by
  unfold sp_fact
  split
  · exact hz.F _
  · exact hz
end KP2
