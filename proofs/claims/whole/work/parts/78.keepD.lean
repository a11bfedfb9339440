/-! EVERY CALL KEEPS THE STATE IN ITS BOUNDS (5) -/
section KP4
variable {z : kz_S} {w a x n s f b i t to : Int32}
theorem kp_inquest (hz : kz_ok z) : kz_ok (sp_inquest z).2 := by
  have ok := tk_all_ok (t := kz_t z) hz.2.2.1 121 0 (kz_h z) 0 (by omega) (by have := hz.2.2.1; omega) (by omega) hz.1.1
  unfold sp_inquest
  generalize tk_all (kz_t z) (kz_n z) 121 0 (kz_h z) 0 = R at ok ⊢
  refine kz_ok.tp ?_ (by omega) (fun j hj => absurd hj (by omega))
  cases h : R.2 with
  | none => exact hz
  | some v' =>
    have g := (ok.2 v' h).2
    exact hz.h g.1 (by rw [g.2]; exact hz.1.2)
end KP4
