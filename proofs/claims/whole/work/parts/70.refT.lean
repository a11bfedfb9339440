/-! THE REFERENCE's TEXT: words, numbers, facts -/
theorem lc_eq {x y : Int64} : lg_cmp x y = 0 ↔ x = y := by
  unfold lg_cmp
  by_cases h : x > y
  · rw [if_pos h]
    exact ⟨fun q => absurd q (by decide), fun q => by have h' : y < x := h; rw [Int64.lt_iff_toInt_lt, q] at h'; omega⟩
  · rw [if_neg h]
    by_cases e : x = y
    · rw [if_pos e]; exact ⟨fun _ => e, fun _ => rfl⟩
    · rw [if_neg e]; exact ⟨fun q => absurd q (by decide), fun q => absurd q e⟩
theorem kR_so1 {o : Nat} (h : o ≤ 4) : kR_so o = 1 ↔ o = 1 := by
  have : ∀ o, o ≤ 4 → (kR_so o = 1 ↔ o = 1) := by decide
  exact this o h
theorem kR_so2 {o : Nat} (h : o ≤ 4) : kR_so o = 2 ↔ o = 2 := by
  have : ∀ o, o ≤ 4 → (kR_so o = 2 ↔ o = 2) := by decide
  exact this o h
theorem kR_so0 {o : Nat} (h : o ≤ 4) : kR_so o = 0 ↔ o = 0 := by
  have : ∀ o, o ≤ 4 → (kR_so o = 0 ↔ o = 0) := by decide
  exact this o h
theorem kR_so3 {o : Nat} (h : o ≤ 4) : kR_so o = 3 ↔ (o = 3 ∨ o = 4) := by
  have : ∀ o, o ≤ 4 → (kR_so o = 3 ↔ (o = 3 ∨ o = 4)) := by decide
  exact this o h
section KM20
variable {d n p : Nat} {t : Nat → Int32} {T : tk_T} {μ : kq_M} {Q : Option kq_V → kq_M → Prop}
theorem kt_M_isWord (r : Nat) {C : Int64} (hr : r < 12) (hC : C = Int64.ofNat (kd_c r)) (hf : tk_fr t n p T) (hT : kR_T t μ T) (k : Q (some (kq_I (kq_b (tk_w t T r)))) μ) : kq_Call d km_M_isWord [kq_R 0 20, kq_L C] μ Q := by
  have ae := hf.ae
  have no : tk_w t T r = false → ∀ o o', kq_S km_M_isWord d 21 [some (kq_R 0 20), o, o'] [] μ Q := by
    intro h o o'
    rw [h] at k
    refine ks_M_isWord_21 <| ks_M_isWord_22 (by first | exact kq_b01' _ | exact Or.inl rfl | exact Or.inr rfl | assumption) ?_
    exact k
  refine ke_M_isWord ?_
  refine ks_M_isWord_0 <| ks_M_isWord_1 <| ks_M_isWord_4 <| ks_M_isWord_5 (fun h5 => ?_) (fun h5 => ?_)
  · rw [hT.1, kR_so1 ae.2.2.2.2] at h5
    exact no (decide_eq_false (fun q => h5 q.1)) _ _
  · rw [hT.1, kR_so1 ae.2.2.2.2] at h5
    have e := tk_w_cd (r := r) hr hf h5
    refine ks_M_isWord_8 <| ks_M_isWord_9 <| ks_M_isWord_12 <| ks_M_isWord_13 <| ks_M_isWord_14 (fun h14 => ?_) (fun h14 => ?_)
    · rw [hT.2.2.2.1 h5, lc_eq, hC] at h14
      exact no (e.trans (decide_eq_false h14)) _ _
    · rw [hT.2.2.2.1 h5, lc_eq, hC] at h14
      rw [e.trans (decide_eq_true h14)] at k
      refine ks_M_isWord_17 <| ks_M_isWord_18 <| ks_M_isWord_22 (by first | exact kq_b01' _ | exact Or.inl rfl | exact Or.inr rfl | assumption) ?_
      exact k
end KM20
