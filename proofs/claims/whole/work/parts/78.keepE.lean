/-! EVERY CALL KEEPS THE STATE IN ITS BOUNDS (6) -/
section KP5
variable {z : kz_S} {w a x n s f b i t to : Int32}
theorem kp_sheet (hz : kz_ok z) : kz_ok (sp_sheet z s b n).2 := by
  unfold sp_sheet
  split
  · exact hz.F _
  · split
    · exact hz.F _
    · split
      · exact hz.F _
      · next h1 h2 =>
        refine hz.sh (fun y hy => ?_)
        unfold va_up
        split
        · split
          · omega
          · rw [ki_lt, ki_40] at h2
            unfold kh_nat
            omega
        · exact hz.2.2.2.2 y hy
theorem kp_write {v : Int64} (hz : kz_ok z) : kz_ok (sp_write z s i v).2 := by
  unfold sp_write
  repeat' split
  all_goals first | with_reducible exact hz.F _ | with_reducible exact hz.F6 _ | exact hz.sh hz.2.2.2.2
theorem kp_copy (hz : kz_ok z) : kz_ok (sp_copy z s f t to n).2 := by
  unfold sp_copy
  repeat' split
  all_goals first | with_reducible exact hz.F _ | with_reducible exact hz.F6 _ | exact hz.sh hz.2.2.2.2
theorem kp_ly (N : Nat → Int64) : ∀ (j i : Nat) (v : kh_S) (n : Nat), kh_ok v → kh_ok (kg_lays N j i v n).1 ∧ kh_m (kg_lays N j i v n).1 = kh_m v
  | 0, _, v, _, h => ⟨h, rfl⟩
  | j + 1, i, v, n, h => by
    have e : kg_lays N (j + 1) i v n = if 0 ≤ N i ∧ N i ≤ 9 then kg_lays N j (i + 1) (kh_setu v i (N i).toInt32) (n + 1) else kg_lays N j (i + 1) v n := rfl
    rw [e]
    split
    · next hq => exact kp_ly N j (i + 1) _ (n + 1) (kh_setu_ok h (kp_9 hq))
    · exact kp_ly N j (i + 1) v n h
end KP5
