/-! EVERY CALL KEEPS THE STATE IN ITS BOUNDS (4) -/
section KP3
variable {z : kz_S} {w a x n s f b i t to : Int32}
theorem kp_fd (x : Int32) : ∀ (j n : Nat) (t : Nat → Int32), (∀ q, q < n → kh_in (t q) 0 255) → ∀ q, q < n + j → kh_in (kg_feed x j n t q) 0 255
  | 0, n, t, h, q, hq => h q hq
  | j + 1, n, t, h, q, hq => kp_fd x j (n + 1) _ (fun y hy => by
      unfold kh_up
      split
      · exact kp_255 _
      · exact h y (by omega)) q (by omega)
theorem kp_feed (hz : kz_ok z) : kz_ok (sp_feed z x n).2 := by
  unfold sp_feed
  split
  · exact hz.F _
  · split
    · exact hz.F _
    · next h => exact hz.tp (by omega) (kp_fd x _ _ _ hz.2.2.2.1)
theorem kp_wipe (hz : kz_ok z) : kz_ok (sp_wipe z).2 := hz.tp (by omega) (fun j hj => absurd hj (by omega))
end KP3
