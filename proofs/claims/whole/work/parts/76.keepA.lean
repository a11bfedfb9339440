/-! EVERY CALL KEEPS THE STATE IN ITS BOUNDS (2) -/
section KP1
variable {z : kz_S} {w a x n s f b i t to : Int32}
theorem kp_ask (hz : kz_ok z) : kz_ok (sp_ask z w f).2 := by
  have h8 := hz.1.1.1
  unfold sp_ask
  split
  · exact hz.F _
  · next h =>
    have hw : kh_wi (kz_h z) w = true := by
      cases hq : kh_wi (kz_h z) w with
      | false => exact absurd (Or.inl hq) h
      | true => rfl
    obtain ⟨j, hj, rfl⟩ := kh_wi_ix hz.1.1 hw
    obtain ⟨y, hy, rfl⟩ := kf8 (Classical.not_not.mp (fun q => h (Or.inr q)))
    rw [kh_nat_nI (show j < 2 ^ 31 by omega), kh_nat_nI (show y < 2 ^ 31 by omega)]
    exact hz.h (kh_ans_ok hz.1.1 hj hy) hz.1.2
theorem kp_swap (hz : kz_ok z) : kz_ok (sp_swap z w x).2 := by
  have h8 := hz.1.1.1
  unfold sp_swap
  split
  · exact hz.F _
  · next h =>
    have hw : kh_wi (kz_h z) w = true := by
      cases hq : kh_wi (kz_h z) w with
      | false => exact absurd (Or.inl hq) h
      | true => rfl
    have hx : kh_wi (kz_h z) x = true := by
      cases hq : kh_wi (kz_h z) x with
      | false => exact absurd (Or.inr (Or.inl hq)) h
      | true => rfl
    obtain ⟨j, hj, rfl⟩ := kh_wi_ix hz.1.1 hw
    obtain ⟨y, hy, rfl⟩ := kh_wi_ix hz.1.1 hx
    rw [kh_nat_nI (show j < 2 ^ 31 by omega), kh_nat_nI (show y < 2 ^ 31 by omega)]
    exact hz.h (kh_swap_ok hz.1.1 hj hy) hz.1.2
theorem kp_minutes (hz : kz_ok z) : kz_ok (sp_minutes z n).2 := by
  unfold sp_minutes
  split
  · exact hz.F _
  · split
    · exact hz.F _
    · next h => exact hz.h (kh_pass_ok _ _ hz.1.1 (by omega)) (by rw [kh_pass_m]; omega)
theorem kp_now (hz : kz_ok z) : kz_ok (sp_now z a).2 := by
  unfold sp_now
  repeat' split
  all_goals first | with_reducible exact hz.F _ | with_reducible exact hz
theorem kp_on (hz : kz_ok z) : kz_ok (sp_on z n a).2 := by
  unfold sp_on
  split
  · exact hz.F _
  · exact hz
theorem kp_then (hz : kz_ok z) : kz_ok (sp_then z w n a).2 := by
  unfold sp_then
  split
  · exact hz.F _
  · exact hz
end KP1
