/-! THE WHOLE STATE: the hall, the image, the tape, the sheets, what was found -/
abbrev kz_S : Type := kh_S × Bool × kh_S × Nat × (Nat → Int32) × (Nat → Int32) × (Nat → Nat) × (Nat → Nat → Int64) × (Nat → Int32)
def kz_h (z : kz_S) : kh_S := z.1
def kz_b (z : kz_S) : Bool := z.2.1
def kz_k (z : kz_S) : kh_S := z.2.2.1
def kz_n (z : kz_S) : Nat := z.2.2.2.1
def kz_t (z : kz_S) : Nat → Int32 := z.2.2.2.2.1
def kz_B (z : kz_S) : Nat → Int32 := z.2.2.2.2.2.1
def kz_L (z : kz_S) : Nat → Nat := z.2.2.2.2.2.2.1
def kz_N (z : kz_S) : Nat → Nat → Int64 := z.2.2.2.2.2.2.2.1
def kz_f (z : kz_S) : Nat → Int32 := z.2.2.2.2.2.2.2.2
def kz_seth (z : kz_S) (v : kh_S) : kz_S := (v, kz_b z, kz_k z, kz_n z, kz_t z, kz_B z, kz_L z, kz_N z, kz_f z)
def kz_setk (z : kz_S) (b : Bool) (v : kh_S) : kz_S := (kz_h z, b, v, kz_n z, kz_t z, kz_B z, kz_L z, kz_N z, kz_f z)
def kz_sett (z : kz_S) (n : Nat) (t : Nat → Int32) : kz_S := (kz_h z, kz_b z, kz_k z, n, t, kz_B z, kz_L z, kz_N z, kz_f z)
def kz_sets (z : kz_S) (B : Nat → Int32) (L : Nat → Nat) (N : Nat → Nat → Int64) : kz_S := (kz_h z, kz_b z, kz_k z, kz_n z, kz_t z, B, L, N, kz_f z)
def kz_fin (z : kz_S) (k : Nat) : kz_S := (kz_h z, kz_b z, kz_k z, kz_n z, kz_t z, kz_B z, kz_L z, kz_N z, kh_up (kz_f z) k (kz_f z k + 1))
def kz_code (k : Nat) : Int32 := -1000000001 - nI k
def kz_F (z : kz_S) (k : Nat) : Int32 × kz_S := (kz_code k, kz_fin z k)
def kz_ok (z : kz_S) : Prop := (kh_ok (kz_h z) ∧ kh_m (kz_h z) ≤ 99999) ∧ (kz_b z = true → kh_ok (kz_k z) ∧ kh_m (kz_k z) ≤ 99999) ∧ kz_n z ≤ 120 ∧ (∀ j, j < kz_n z → kh_in (kz_t z j) 0 255) ∧ ∀ s, s < 4 → kz_L z s ≤ 40
/-- the class holds it -/
def kK_at (μ : kq_M) (z : kz_S) : Prop := kc_at μ 1 (kz_h z) ∧ kq_rI μ 0 0 3 = kq_b (kz_b z) ∧ (kz_b z = true → kc_at μ 3 (kz_k z)) ∧ kq_rI μ 0 6 1 = nI (kz_n z) ∧ (∀ j, j < kz_n z → kq_rI μ 0 7 j = kz_t z j) ∧
  (∀ s, s < 4 → kq_rI μ s 8 0 = kz_B z s) ∧ (∀ s, s < 4 → kq_rI μ s 8 1 = nI (kz_L z s)) ∧ (∀ s, s < 4 → ∀ j, j < 40 → kq_rL μ s 9 j = kz_N z s j) ∧ ∀ k, k < 7 → kq_rI μ 0 11 k = kz_f z k
/-- the reference holds it -/
def kM_at (μ : kq_M) (z : kz_S) : Prop := kr_at μ 21 (kz_h z) ∧ kq_rI μ 0 20 19 = kq_b (kz_b z) ∧ (kz_b z = true → kr_at μ 30 (kz_k z)) ∧ kq_rI μ 0 20 6 = nI (kz_n z) ∧ (∀ j, j < kz_n z → kq_rI μ 0 25 j = kz_t z j) ∧
  (∀ s, s < 4 → kq_rI μ 0 26 s = kz_B z s) ∧ (∀ s, s < 4 → kq_rI μ 0 27 s = nI (kz_L z s)) ∧ (∀ s, s < 4 → ∀ j, j < 40 → kq_rL μ 0 28 (40 * s + j) = kz_N z s j) ∧ ∀ k, k < 7 → kq_rI μ 0 22 k = kz_f z k
def kK_P : Nat → Nat → Prop := fun _ i => i ≤ 11
def kM_P : Nat → Nat → Prop := fun _ i => 20 ≤ i
/-- what a call of the class does -/
def kK_ct (M : kq_D) (as : List kq_V) (z z' : kz_S) (ret : kq_V) : Prop := ∀ (μ : kq_M) (Q : Option kq_V → kq_M → Prop), kK_at μ z → (∀ μ', kK_at μ' z' → kq_fr kK_P μ μ' → Q (some ret) μ') → kq_Call 11 M (kq_R 0 0 :: as) μ Q
def kM_ct (M : kq_D) (as : List kq_V) (z z' : kz_S) (ret : kq_V) : Prop := ∀ (μ : kq_M) (Q : Option kq_V → kq_M → Prop), kM_at μ z → (∀ μ', kM_at μ' z' → kq_fr kM_P μ μ' → Q (some ret) μ') → kq_Call 11 M (kq_R 0 20 :: as) μ Q
section KZ
variable {μ μ' : kq_M} {z : kz_S}
theorem kK_at.h (h : kK_at μ z) : kc_at μ 1 (kz_h z) := h.1
theorem kK_at.b (h : kK_at μ z) : kq_rI μ 0 0 3 = kq_b (kz_b z) := h.2.1
theorem kK_at.k (h : kK_at μ z) : kz_b z = true → kc_at μ 3 (kz_k z) := h.2.2.1
theorem kK_at.n (h : kK_at μ z) : kq_rI μ 0 6 1 = nI (kz_n z) := h.2.2.2.1
theorem kK_at.t (h : kK_at μ z) : ∀ j, j < kz_n z → kq_rI μ 0 7 j = kz_t z j := h.2.2.2.2.1
theorem kK_at.B (h : kK_at μ z) : ∀ s, s < 4 → kq_rI μ s 8 0 = kz_B z s := h.2.2.2.2.2.1
theorem kK_at.L (h : kK_at μ z) : ∀ s, s < 4 → kq_rI μ s 8 1 = nI (kz_L z s) := h.2.2.2.2.2.2.1
theorem kK_at.N (h : kK_at μ z) : ∀ s, s < 4 → ∀ j, j < 40 → kq_rL μ s 9 j = kz_N z s j := h.2.2.2.2.2.2.2.1
theorem kK_at.f (h : kK_at μ z) : ∀ k, k < 7 → kq_rI μ 0 11 k = kz_f z k := h.2.2.2.2.2.2.2.2
theorem kM_at.h (h : kM_at μ z) : kr_at μ 21 (kz_h z) := h.1
theorem kM_at.b (h : kM_at μ z) : kq_rI μ 0 20 19 = kq_b (kz_b z) := h.2.1
theorem kM_at.k (h : kM_at μ z) : kz_b z = true → kr_at μ 30 (kz_k z) := h.2.2.1
theorem kM_at.n (h : kM_at μ z) : kq_rI μ 0 20 6 = nI (kz_n z) := h.2.2.2.1
theorem kM_at.t (h : kM_at μ z) : ∀ j, j < kz_n z → kq_rI μ 0 25 j = kz_t z j := h.2.2.2.2.1
theorem kM_at.B (h : kM_at μ z) : ∀ s, s < 4 → kq_rI μ 0 26 s = kz_B z s := h.2.2.2.2.2.1
theorem kM_at.L (h : kM_at μ z) : ∀ s, s < 4 → kq_rI μ 0 27 s = nI (kz_L z s) := h.2.2.2.2.2.2.1
theorem kM_at.N (h : kM_at μ z) : ∀ s, s < 4 → ∀ j, j < 40 → kq_rL μ 0 28 (40 * s + j) = kz_N z s j := h.2.2.2.2.2.2.2.1
theorem kM_at.f (h : kM_at μ z) : ∀ k, k < 7 → kq_rI μ 0 22 k = kz_f z k := h.2.2.2.2.2.2.2.2
/-- the halls of the regions 1 and 2 may change: the state gets the new hall -/
def kK_H12 : Nat → Nat → Prop := fun a b => (a = 1 ∨ a = 2) ∧ 1 ≤ b ∧ b ≤ 5
theorem kK_at.hall {v : kh_S} (h : kK_at μ z) (h1 : kc_at μ' 1 v) (hf : kq_fr kK_H12 μ μ') : kK_at μ' (kz_seth z v) := by
  have n : ∀ a b, b = 0 ∨ 6 ≤ b → ¬ kK_H12 a b := fun a b hb q => by
    have h1 := q.2.1
    have h2 := q.2.2
    omega
  refine ⟨h1, ?_, fun hb => (h.k hb).fr hf (fun b _ _ q => by rcases q.1 with e | e <;> cases e), ?_, fun j hj => ?_, fun s hs => ?_, fun s hs => ?_, fun s hs j hj => ?_, fun k hk => ?_⟩
  · rw [hf.1 _ _ _ (n 0 0 (by omega))]; exact h.b
  · rw [hf.1 _ _ _ (n 0 6 (by omega))]; exact h.n
  · rw [hf.1 _ _ _ (n 0 7 (by omega))]; exact h.t j hj
  · rw [hf.1 _ _ _ (n s 8 (by omega))]; exact h.B s hs
  · rw [hf.1 _ _ _ (n s 8 (by omega))]; exact h.L s hs
  · rw [hf.2.1 _ _ _ (n s 9 (by omega))]; exact h.N s hs j hj
  · rw [hf.1 _ _ _ (n 0 11 (by omega))]; exact h.f k hk
theorem kK_fr1 (h : kq_fr (kc_P 1) μ μ') : kq_fr kK_H12 μ μ' := h.mono (fun _ _ q => ⟨Or.inl q.1, q.2⟩)
theorem kK_fr2 (h : kq_fr (kc_P 2) μ μ') : kq_fr kK_H12 μ μ' := h.mono (fun _ _ q => ⟨Or.inr q.1, q.2⟩)
theorem kK_frP (h : kq_fr kK_H12 μ μ') : kq_fr kK_P μ μ' := h.mono (fun _ b q => Nat.le_trans q.2.2 (by decide))
/-- only the trial changed -/
theorem kK_at.trial (h : kK_at μ z) (hf : kq_fr (kc_P 2) μ μ') : kK_at μ' z := h.hall (h.h.fr hf (fun b _ _ q => by cases q.1)) (kK_fr2 hf)
theorem kK_at.fin {k : Nat} {x : Int32} (h : kK_at μ z) (hk : k < 7) (hx : x = kz_f z k + 1) : kK_at (kq_wI μ 0 11 k x) (kz_fin z k) := by
  have o : ∀ a b c, b ≠ 11 → kq_rI (kq_wI μ 0 11 k x) a b c = kq_rI μ a b c := fun a b c hb => kc_wr (fun q => hb q.1)
  have hf : kq_fr (fun _ b => b = 11) μ (kq_wI μ 0 11 k x) := kq_fr.rf.wI rfl
  refine ⟨h.h.fr hf (fun b _ _ q => by omega), ?_, fun hb => (h.k hb).fr hf (fun b _ _ q => by omega), ?_, fun j hj => ?_, fun s hs => ?_, fun s hs => ?_, h.N, fun j hj => ?_⟩
  · rw [o _ _ _ (by decide)]; exact h.b
  · rw [o _ _ _ (by decide)]; exact h.n
  · rw [o _ _ _ (by decide)]; exact h.t j hj
  · rw [o _ _ _ (by decide)]; exact h.B s hs
  · rw [o _ _ _ (by decide)]; exact h.L s hs
  · subst hx
    exact kc_row (h.f j hj)
end KZ
/-- who may be asked -/
def kh_wi (v : kh_S) (w : Int32) : Bool := decide (0 ≤ w ∧ w < nI (kh_c v))
theorem kh_ix {x : Int32} {c : Nat} (hc : c < 2 ^ 31) (h : 0 ≤ x ∧ x < nI c) : ∃ j : Nat, j < c ∧ x = nI j := by
  rw [ki_le, ki_lt, ki_0, nI_toInt hc] at h
  obtain ⟨j, hj, rfl⟩ := nI_of (x := x) (by rw [ki_lt, ki_0]; omega)
  rw [nI_toInt hj] at h
  exact ⟨j, by omega, rfl⟩
theorem kh_wi_ix {v : kh_S} {w : Int32} (hv : kh_ok v) (h : kh_wi v w = true) : ∃ j : Nat, j < kh_c v ∧ w = nI j := kh_ix (Nat.lt_of_le_of_lt hv.1 (by decide)) (of_decide_eq_true h)
/-! the class's own small methods -/
section KT6
variable {d : Nat} {μ : kq_M} {z : kz_S} {Q : Option kq_V → kq_M → Prop}
theorem kt_K_fin (j : Nat) (ha : kK_at μ z) (hj : j < 7) (k : ∀ μ', kK_at μ' (kz_fin z j) → kq_fr kK_P μ μ' → Q (some (kq_I (kz_code j))) μ') : kq_Call d km_K_finding [kq_R 0 0, kq_I (nI j)] μ Q := by
  refine ke_K_finding ?_
  refine ks_K_finding_0 <| ks_K_finding_1 (fun h1 => ?_) (fun h1 => ?_)
  · exact absurd h1 (nI_pos (by omega))
  · refine ks_K_finding_4 <| ks_K_finding_5 <| ks_K_finding_7 (fun h7 => ?_) (fun h7 => ?_)
    · rw [ki_le, ki_7, nI_toInt (by omega)] at h7
      omega
    · refine ks_K_finding_10 <| ks_K_finding_11 <| ks_K_finding_14 <| ks_K_finding_15 rfl rfl <| ks_K_finding_16n (by omega) <| ks_K_finding_17 <| ks_K_finding_18 <| ks_K_finding_19n (by omega) <| ks_K_finding_20 <| ks_K_finding_22 <| ks_K_finding_23 <| ks_K_finding_24 ?_
      rw [ha.f j hj]
      exact k _ (ha.fin hj rfl) (kq_fr.rf.wI (show (11 : Nat) ≤ 11 by decide))
theorem kt_K_isWitness {w : Int32} (ha : kK_at μ z) (hv : kh_ok (kz_h z)) (k : Q (some (kq_I (kq_b (kh_wi (kz_h z) w)))) μ) : kq_Call d km_K_isWitness [kq_R 0 0, kq_I w] μ Q := by
  refine ke_K_isWitness ?_
  refine ks_K_isWitness_0 <| ks_K_isWitness_1 (fun h1 => ?_) (fun h1 => ?_)
  · refine ks_K_isWitness_19 <| ks_K_isWitness_20 (by first | exact kq_b01' _ | exact Or.inl rfl | exact Or.inr rfl | assumption) ?_
    rw [show kh_wi (kz_h z) w = false from decide_eq_false (by rw [ki_lt, ki_0] at h1; rw [ki_le, ki_0]; omega)] at k
    exact k
  · refine ks_K_isWitness_4 <| ks_K_isWitness_5 <| ks_K_isWitness_6 <| ks_K_isWitness_9 (by first | rfl | assumption) <| ks_K_isWitness_12 (fun h12 => ?_) (fun h12 => ?_)
    · rw [ha.h.c] at h12
      refine ks_K_isWitness_19 <| ks_K_isWitness_20 (by first | exact kq_b01' _ | exact Or.inl rfl | exact Or.inr rfl | assumption) ?_
      rw [show kh_wi (kz_h z) w = false from decide_eq_false (by rw [ki_le] at h12; rw [ki_lt w]; omega)] at k
      exact k
    · rw [ha.h.c] at h12
      refine ks_K_isWitness_15 <| ks_K_isWitness_16 <| ks_K_isWitness_20 (by first | exact kq_b01' _ | exact Or.inl rfl | exact Or.inr rfl | assumption) ?_
      rw [show kh_wi (kz_h z) w = true from decide_eq_true (by rw [ki_le] at h12; rw [ki_lt, ki_0] at h1; rw [ki_le, ki_lt w, ki_0]; omega)] at k
      exact k
/-- by kinds above kinds, three levels -/
def kh_ups : Nat → Int32 → Int32 → Int32
  | 0, k, _ => k
  | n + 1, k, wt => if k = wt then k else if k < 0 then k else if 6 ≤ k then k else kh_ups n (kq_KA (kh_nat k)) wt
def kh_under (own wt : Int32) : Bool := decide (kh_ups 3 own wt = wt)
theorem kt_K_isOfKind {x y : Int32} (k : Q (some (kq_I (kq_b (kh_under x y)))) μ) : kq_Call d km_K_isOfKind [kq_I x, kq_I y] μ Q := by
  have fin : ∀ e i : Int32, e = kh_ups 3 x y → kq_S km_K_isOfKind d 36 [some (kq_I x), some (kq_I y), some (kq_I e), some (kq_I i)] [] μ Q := by
    intro e i he
    refine ks_K_isOfKind_36 <| ks_K_isOfKind_37 <| ks_K_isOfKind_38 (fun h38 => ?_) (fun h38 => ?_)
    · refine ks_K_isOfKind_45 <| ks_K_isOfKind_46 (by first | exact kq_b01' _ | exact Or.inl rfl | exact Or.inr rfl | assumption) ?_
      rw [show kh_under x y = false from decide_eq_false (by rw [← he]; exact h38)] at k
      exact k
    · refine ks_K_isOfKind_41 <| ks_K_isOfKind_42 <| ks_K_isOfKind_46 (by first | exact kq_b01' _ | exact Or.inl rfl | exact Or.inr rfl | assumption) ?_
      rw [show kh_under x y = true from decide_eq_true (by rw [← he]; exact h38)] at k
      exact k
  have loop : ∀ (j i : Nat) (e : Int32), i + j = 3 → kh_ups j e y = kh_ups 3 x y → kq_S km_K_isOfKind d 4 [some (kq_I x), some (kq_I y), some (kq_I e), some (kq_I (nI i))] [] μ Q := by
    intro j
    induction j with
    | zero =>
      intro i e hi he
      refine ks_K_isOfKind_4 <| ks_K_isOfKind_5 <| ks_K_isOfKind_6 (fun h6 => ?_) (fun h6 => ?_)
      · exact fin e _ he
      · exact absurd (show (3 : Int32) ≤ nI i by rw [show i = 3 by omega]; decide) h6
    | succ j ih =>
      intro i e hi he
      refine ks_K_isOfKind_4 <| ks_K_isOfKind_5 <| ks_K_isOfKind_6 (fun h6 => ?_) (fun h6 => ?_)
      · exact absurd h6 (by rw [ki_le, ki_3, nI_toInt (by omega)]; omega)
      · refine ks_K_isOfKind_9 <| ks_K_isOfKind_10 <| ks_K_isOfKind_11 (fun h11 => ?_) (fun h11 => ?_)
        · refine fin e _ ?_
          rw [← he]
          show e = if e = y then e else _
          rw [if_pos h11]
        · refine ks_K_isOfKind_14 <| ks_K_isOfKind_15 (fun h15 => ?_) (fun h15 => ?_)
          · refine fin e _ ?_
            rw [← he]
            show e = if e = y then e else if e < 0 then e else _
            rw [if_neg h11, if_pos h15]
          · refine ks_K_isOfKind_18 <| ks_K_isOfKind_19 <| ks_K_isOfKind_21 (fun h21 => ?_) (fun h21 => ?_)
            · refine fin e _ ?_
              rw [← he]
              show e = if e = y then e else if e < 0 then e else if 6 ≤ e then e else _
              rw [if_neg h11, if_neg h15, if_pos h21]
            · obtain ⟨q, hq, eq⟩ : ∃ q : Nat, q < 6 ∧ e = nI q := kh_ix (by decide) ⟨by rw [ki_lt] at h15; rw [ki_le]; omega, by rw [ki_le] at h21; rw [ki_lt, show (nI 6).toInt = (6 : Int32).toInt from rfl]; omega⟩
              refine ks_K_isOfKind_24 <| ks_K_isOfKind_27 <| ks_K_isOfKind_28 q eq hq <| ks_K_isOfKind_29 rfl <| ks_K_isOfKind_30n rfl <| ks_K_isOfKind_33 ?_
              refine ih (i + 1) _ (by omega) ?_
              rw [← he]
              show _ = if e = y then e else if e < 0 then e else if 6 ≤ e then e else kh_ups j (kq_KA (kh_nat e)) y
              rw [if_neg h11, if_neg h15, if_neg h21, eq, kh_nat_nI (by omega)]
  refine ke_K_isOfKind ?_
  refine ks_K_isOfKind_0 <| ks_K_isOfKind_1 rfl <| ks_K_isOfKind_2 <| ks_K_isOfKind_3 rfl ?_
  exact loop 3 0 x rfl rfl
end KT6
