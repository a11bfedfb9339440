/-! THE CLASS's HALL: its methods -/
section KH
variable {μ : kq_M} {r : Nat} {v : kh_S}
theorem kc_at.T (h : kc_at μ r v) : kq_rI μ r 1 0 = kh_T v := h.1
theorem kc_at.H (h : kc_at μ r v) : kq_rI μ r 1 1 = kh_H v := h.2.1
theorem kc_at.W (h : kc_at μ r v) : kq_rI μ r 1 2 = kh_W v := h.2.2.1
theorem kc_at.B (h : kc_at μ r v) : kq_rI μ r 1 3 = kh_B v := h.2.2.2.1
theorem kc_at.E (h : kc_at μ r v) : kq_rI μ r 1 4 = kh_E v := h.2.2.2.2.1
theorem kc_at.m (h : kc_at μ r v) : kq_rI μ r 1 5 = nI (kh_m v) := h.2.2.2.2.2.1
theorem kc_at.c (h : kc_at μ r v) : kq_rI μ r 1 6 = nI (kh_c v) := h.2.2.2.2.2.2.1
theorem kc_at.k (h : kc_at μ r v) {w : Nat} (hw : w < kh_c v) : kq_rI μ r 2 w = kh_k v w := h.2.2.2.2.2.2.2.1 w hw
theorem kc_at.n (h : kc_at μ r v) {w : Nat} (hw : w < kh_c v) : kq_rI μ r 3 w = kh_n v w := h.2.2.2.2.2.2.2.2.1 w hw
theorem kc_at.s (h : kc_at μ r v) {w : Nat} (hw : w < kh_c v) : kq_rI μ r 4 w = kh_s v w := h.2.2.2.2.2.2.2.2.2.1 w hw
theorem kc_at.u (h : kc_at μ r v) {w : Nat} (hw : w < kh_c v) : kq_rI μ r 5 w = kh_u v w := h.2.2.2.2.2.2.2.2.2.2 w hw
end KH
def kh_setT (v : kh_S) (x : Int32) : kh_S := kh_mk x (kh_H v) (kh_W v) (kh_B v) (kh_E v) (kh_m v) (kh_c v) (kh_k v) (kh_n v) (kh_s v) (kh_u v)
def kh_setW (v : kh_S) (x : Int32) : kh_S := kh_mk (kh_T v) (kh_H v) x (kh_B v) (kh_E v) (kh_m v) (kh_c v) (kh_k v) (kh_n v) (kh_s v) (kh_u v)
def kh_setB (v : kh_S) (x : Int32) : kh_S := kh_mk (kh_T v) (kh_H v) (kh_W v) x (kh_E v) (kh_m v) (kh_c v) (kh_k v) (kh_n v) (kh_s v) (kh_u v)
def kh_setE (v : kh_S) (x : Int32) : kh_S := kh_mk (kh_T v) (kh_H v) (kh_W v) (kh_B v) x (kh_m v) (kh_c v) (kh_k v) (kh_n v) (kh_s v) (kh_u v)
def kh_setk (v : kh_S) (w : Nat) (x : Int32) : kh_S := kh_mk (kh_T v) (kh_H v) (kh_W v) (kh_B v) (kh_E v) (kh_m v) (kh_c v) (kh_up (kh_k v) w x) (kh_n v) (kh_s v) (kh_u v)
def kh_setn (v : kh_S) (w : Nat) (x : Int32) : kh_S := kh_mk (kh_T v) (kh_H v) (kh_W v) (kh_B v) (kh_E v) (kh_m v) (kh_c v) (kh_k v) (kh_up (kh_n v) w x) (kh_s v) (kh_u v)
def kh_sets (v : kh_S) (w : Nat) (x : Int32) : kh_S := kh_mk (kh_T v) (kh_H v) (kh_W v) (kh_B v) (kh_E v) (kh_m v) (kh_c v) (kh_k v) (kh_n v) (kh_up (kh_s v) w x) (kh_u v)
def kh_setu (v : kh_S) (w : Nat) (x : Int32) : kh_S := kh_mk (kh_T v) (kh_H v) (kh_W v) (kh_B v) (kh_E v) (kh_m v) (kh_c v) (kh_k v) (kh_n v) (kh_s v) (kh_up (kh_u v) w x)
theorem kc_wr {μ : kq_M} {r i k a b c : Nat} {x : Int32} (h : ¬ (b = i ∧ c = k)) : kq_rI (kq_wI μ r i k x) a b c = kq_rI μ a b c := by
  rw [kq_rI_wI, if_neg (fun q => h q.2)]
theorem kc_ws {μ : kq_M} {r i k : Nat} {x : Int32} : kq_rI (kq_wI μ r i k x) r i k = x := by
  rw [kq_rI_wI, if_pos ⟨rfl, rfl, rfl⟩]
/-- a write of a scalar, place k of the hall -/
theorem kc_sc {μ : kq_M} {r k c : Nat} {x : Int32} (h : c ≠ k) : kq_rI (kq_wI μ r 1 k x) r 1 c = kq_rI μ r 1 c := kc_wr (fun q => h q.2)
theorem kc_ar {μ : kq_M} {r k b c : Nat} {x : Int32} (h : b ≠ 1) : kq_rI (kq_wI μ r 1 k x) r b c = kq_rI μ r b c := kc_wr (fun q => h q.1)
section KHW
variable {μ : kq_M} {r : Nat} {v : kh_S} {x : Int32}
theorem kc_at.wT (h : kc_at μ r v) : kc_at (kq_wI μ r 1 0 x) r (kh_setT v x) := by
  refine ⟨kc_ws, ?_, ?_, ?_, ?_, ?_, ?_, fun w hw => ?_, fun w hw => ?_, fun w hw => ?_, fun w hw => ?_⟩
  · rw [kc_sc (by decide)]; exact h.H
  · rw [kc_sc (by decide)]; exact h.W
  · rw [kc_sc (by decide)]; exact h.B
  · rw [kc_sc (by decide)]; exact h.E
  · rw [kc_sc (by decide)]; exact h.m
  · rw [kc_sc (by decide)]; exact h.c
  · rw [kc_ar (by decide)]; exact h.k hw
  · rw [kc_ar (by decide)]; exact h.n hw
  · rw [kc_ar (by decide)]; exact h.s hw
  · rw [kc_ar (by decide)]; exact h.u hw
theorem kc_at.wH (h : kc_at μ r v) : kc_at (kq_wI μ r 1 1 x) r (kh_setH v x) := by
  refine ⟨?_, kc_ws, ?_, ?_, ?_, ?_, ?_, fun w hw => ?_, fun w hw => ?_, fun w hw => ?_, fun w hw => ?_⟩
  · rw [kc_sc (by decide)]; exact h.T
  · rw [kc_sc (by decide)]; exact h.W
  · rw [kc_sc (by decide)]; exact h.B
  · rw [kc_sc (by decide)]; exact h.E
  · rw [kc_sc (by decide)]; exact h.m
  · rw [kc_sc (by decide)]; exact h.c
  · rw [kc_ar (by decide)]; exact h.k hw
  · rw [kc_ar (by decide)]; exact h.n hw
  · rw [kc_ar (by decide)]; exact h.s hw
  · rw [kc_ar (by decide)]; exact h.u hw
theorem kc_at.wW (h : kc_at μ r v) : kc_at (kq_wI μ r 1 2 x) r (kh_setW v x) := by
  refine ⟨?_, ?_, kc_ws, ?_, ?_, ?_, ?_, fun w hw => ?_, fun w hw => ?_, fun w hw => ?_, fun w hw => ?_⟩
  · rw [kc_sc (by decide)]; exact h.T
  · rw [kc_sc (by decide)]; exact h.H
  · rw [kc_sc (by decide)]; exact h.B
  · rw [kc_sc (by decide)]; exact h.E
  · rw [kc_sc (by decide)]; exact h.m
  · rw [kc_sc (by decide)]; exact h.c
  · rw [kc_ar (by decide)]; exact h.k hw
  · rw [kc_ar (by decide)]; exact h.n hw
  · rw [kc_ar (by decide)]; exact h.s hw
  · rw [kc_ar (by decide)]; exact h.u hw
theorem kc_at.wB (h : kc_at μ r v) : kc_at (kq_wI μ r 1 3 x) r (kh_setB v x) := by
  refine ⟨?_, ?_, ?_, kc_ws, ?_, ?_, ?_, fun w hw => ?_, fun w hw => ?_, fun w hw => ?_, fun w hw => ?_⟩
  · rw [kc_sc (by decide)]; exact h.T
  · rw [kc_sc (by decide)]; exact h.H
  · rw [kc_sc (by decide)]; exact h.W
  · rw [kc_sc (by decide)]; exact h.E
  · rw [kc_sc (by decide)]; exact h.m
  · rw [kc_sc (by decide)]; exact h.c
  · rw [kc_ar (by decide)]; exact h.k hw
  · rw [kc_ar (by decide)]; exact h.n hw
  · rw [kc_ar (by decide)]; exact h.s hw
  · rw [kc_ar (by decide)]; exact h.u hw
theorem kc_at.wE (h : kc_at μ r v) : kc_at (kq_wI μ r 1 4 x) r (kh_setE v x) := by
  refine ⟨?_, ?_, ?_, ?_, kc_ws, ?_, ?_, fun w hw => ?_, fun w hw => ?_, fun w hw => ?_, fun w hw => ?_⟩
  · rw [kc_sc (by decide)]; exact h.T
  · rw [kc_sc (by decide)]; exact h.H
  · rw [kc_sc (by decide)]; exact h.W
  · rw [kc_sc (by decide)]; exact h.B
  · rw [kc_sc (by decide)]; exact h.m
  · rw [kc_sc (by decide)]; exact h.c
  · rw [kc_ar (by decide)]; exact h.k hw
  · rw [kc_ar (by decide)]; exact h.n hw
  · rw [kc_ar (by decide)]; exact h.s hw
  · rw [kc_ar (by decide)]; exact h.u hw
theorem kc_at.wm (h : kc_at μ r v) {n : Nat} (hx : x = nI n) : kc_at (kq_wI μ r 1 5 x) r (kh_setM v n) := by
  refine ⟨?_, ?_, ?_, ?_, ?_, kc_ws.trans hx, ?_, fun w hw => ?_, fun w hw => ?_, fun w hw => ?_, fun w hw => ?_⟩
  · rw [kc_sc (by decide)]; exact h.T
  · rw [kc_sc (by decide)]; exact h.H
  · rw [kc_sc (by decide)]; exact h.W
  · rw [kc_sc (by decide)]; exact h.B
  · rw [kc_sc (by decide)]; exact h.E
  · rw [kc_sc (by decide)]; exact h.c
  · rw [kc_ar (by decide)]; exact h.k hw
  · rw [kc_ar (by decide)]; exact h.n hw
  · rw [kc_ar (by decide)]; exact h.s hw
  · rw [kc_ar (by decide)]; exact h.u hw
/-- a write into one of the four rows -/
theorem kc_row {i w j : Nat} {f : Nat → Int32} (h : kq_rI μ r i j = f j) : kq_rI (kq_wI μ r i w x) r i j = kh_up f w x j := by
  unfold kh_up
  by_cases e : j = w
  · subst e
    rw [if_pos rfl]
    exact kc_ws
  · rw [if_neg e, kc_wr (fun q => e q.2)]
    exact h
theorem kc_oth {i w b j : Nat} (h : b ≠ i) : kq_rI (kq_wI μ r i w x) r b j = kq_rI μ r b j := kc_wr (fun q => h q.1)
theorem kc_at.wk (h : kc_at μ r v) {w : Nat} : kc_at (kq_wI μ r 2 w x) r (kh_setk v w x) := by
  refine ⟨?_, ?_, ?_, ?_, ?_, ?_, ?_, fun w hw => kc_row (h.k hw), fun w hw => ?_, fun w hw => ?_, fun w hw => ?_⟩
  · rw [kc_oth (by decide)]; exact h.T
  · rw [kc_oth (by decide)]; exact h.H
  · rw [kc_oth (by decide)]; exact h.W
  · rw [kc_oth (by decide)]; exact h.B
  · rw [kc_oth (by decide)]; exact h.E
  · rw [kc_oth (by decide)]; exact h.m
  · rw [kc_oth (by decide)]; exact h.c
  · rw [kc_oth (by decide)]; exact h.n hw
  · rw [kc_oth (by decide)]; exact h.s hw
  · rw [kc_oth (by decide)]; exact h.u hw
theorem kc_at.wn (h : kc_at μ r v) {w : Nat} : kc_at (kq_wI μ r 3 w x) r (kh_setn v w x) := by
  refine ⟨?_, ?_, ?_, ?_, ?_, ?_, ?_, fun w hw => ?_, fun w hw => kc_row (h.n hw), fun w hw => ?_, fun w hw => ?_⟩
  · rw [kc_oth (by decide)]; exact h.T
  · rw [kc_oth (by decide)]; exact h.H
  · rw [kc_oth (by decide)]; exact h.W
  · rw [kc_oth (by decide)]; exact h.B
  · rw [kc_oth (by decide)]; exact h.E
  · rw [kc_oth (by decide)]; exact h.m
  · rw [kc_oth (by decide)]; exact h.c
  · rw [kc_oth (by decide)]; exact h.k hw
  · rw [kc_oth (by decide)]; exact h.s hw
  · rw [kc_oth (by decide)]; exact h.u hw
theorem kc_at.ws (h : kc_at μ r v) {w : Nat} : kc_at (kq_wI μ r 4 w x) r (kh_sets v w x) := by
  refine ⟨?_, ?_, ?_, ?_, ?_, ?_, ?_, fun w hw => ?_, fun w hw => ?_, fun w hw => kc_row (h.s hw), fun w hw => ?_⟩
  · rw [kc_oth (by decide)]; exact h.T
  · rw [kc_oth (by decide)]; exact h.H
  · rw [kc_oth (by decide)]; exact h.W
  · rw [kc_oth (by decide)]; exact h.B
  · rw [kc_oth (by decide)]; exact h.E
  · rw [kc_oth (by decide)]; exact h.m
  · rw [kc_oth (by decide)]; exact h.c
  · rw [kc_oth (by decide)]; exact h.k hw
  · rw [kc_oth (by decide)]; exact h.n hw
  · rw [kc_oth (by decide)]; exact h.u hw
theorem kc_at.wu (h : kc_at μ r v) {w : Nat} : kc_at (kq_wI μ r 5 w x) r (kh_setu v w x) := by
  refine ⟨?_, ?_, ?_, ?_, ?_, ?_, ?_, fun w hw => ?_, fun w hw => ?_, fun w hw => ?_, fun w hw => kc_row (h.u hw)⟩
  · rw [kc_oth (by decide)]; exact h.T
  · rw [kc_oth (by decide)]; exact h.H
  · rw [kc_oth (by decide)]; exact h.W
  · rw [kc_oth (by decide)]; exact h.B
  · rw [kc_oth (by decide)]; exact h.E
  · rw [kc_oth (by decide)]; exact h.m
  · rw [kc_oth (by decide)]; exact h.c
  · rw [kc_oth (by decide)]; exact h.k hw
  · rw [kc_oth (by decide)]; exact h.n hw
  · rw [kc_oth (by decide)]; exact h.s hw
end KHW
/-- the cells of the hall of region r -/
def kc_P (r : Nat) : Nat → Nat → Prop := fun a b => a = r ∧ 1 ≤ b ∧ b ≤ 5
theorem kc_at.fr {μ μ' : kq_M} {r : Nat} {v : kh_S} {P : Nat → Nat → Prop} (h : kc_at μ r v) (hf : kq_fr P μ μ') (hp : ∀ b, 1 ≤ b → b ≤ 5 → ¬ P r b) : kc_at μ' r v := by
  refine ⟨?_, ?_, ?_, ?_, ?_, ?_, ?_, fun w hw => ?_, fun w hw => ?_, fun w hw => ?_, fun w hw => ?_⟩
  · rw [hf.1 _ _ _ (hp 1 (by decide) (by decide))]; exact h.T
  · rw [hf.1 _ _ _ (hp 1 (by decide) (by decide))]; exact h.H
  · rw [hf.1 _ _ _ (hp 1 (by decide) (by decide))]; exact h.W
  · rw [hf.1 _ _ _ (hp 1 (by decide) (by decide))]; exact h.B
  · rw [hf.1 _ _ _ (hp 1 (by decide) (by decide))]; exact h.E
  · rw [hf.1 _ _ _ (hp 1 (by decide) (by decide))]; exact h.m
  · rw [hf.1 _ _ _ (hp 1 (by decide) (by decide))]; exact h.c
  · rw [hf.1 _ _ _ (hp 2 (by decide) (by decide))]; exact h.k hw
  · rw [hf.1 _ _ _ (hp 3 (by decide) (by decide))]; exact h.n hw
  · rw [hf.1 _ _ _ (hp 4 (by decide) (by decide))]; exact h.s hw
  · rw [hf.1 _ _ _ (hp 5 (by decide) (by decide))]; exact h.u hw
/-! small static methods -/
section KT
variable {d : Nat} {μ : kq_M} {Q : Option kq_V → kq_M → Prop}
theorem kt_K_isIn {s : Int32} {f : Nat} (k : Q (some (kq_I (kq_b (kh_bit s f)))) μ) : kq_Call d km_K_isIn [kq_I s, kq_I (nI f)] μ Q := by
  refine ke_K_isIn ?_
  refine ks_K_isIn_0 <| ks_K_isIn_1 <| ks_K_isIn_2 <| ks_K_isIn_3 <| ks_K_isIn_4 <| ks_K_isIn_5 <| ks_K_isIn_6 (fun h6 => ?_) (fun h6 => ?_)
  · refine ks_K_isIn_13 <| ks_K_isIn_14 (by first | exact kq_b01' _ | exact Or.inl rfl | exact Or.inr rfl | assumption) ?_
    have e : kh_bit s f = false := decide_eq_false h6
    rw [e] at k
    exact k
  · refine ks_K_isIn_9 <| ks_K_isIn_10 <| ks_K_isIn_14 (by first | exact kq_b01' _ | exact Or.inl rfl | exact Or.inr rfl | assumption) ?_
    have e : kh_bit s f = true := decide_eq_true h6
    rw [e] at k
    exact k
theorem kt_K_isKind {x : Int32} (k : Q (some (kq_I (kq_b (decide (0 ≤ x ∧ x < 6))))) μ) : kq_Call d km_K_isKind [kq_I x] μ Q := by
  refine ke_K_isKind ?_
  refine ks_K_isKind_0 <| ks_K_isKind_1 (fun h1 => ?_) (fun h1 => ?_)
  · refine ks_K_isKind_14 <| ks_K_isKind_15 (by first | exact kq_b01' _ | exact Or.inl rfl | exact Or.inr rfl | assumption) ?_
    rw [decide_eq_false (by rw [ki_lt, ki_0] at h1; rw [ki_le, ki_0]; omega)] at k
    exact k
  · refine ks_K_isKind_4 <| ks_K_isKind_5 <| ks_K_isKind_7 (fun h7 => ?_) (fun h7 => ?_)
    · refine ks_K_isKind_14 <| ks_K_isKind_15 (by first | exact kq_b01' _ | exact Or.inl rfl | exact Or.inr rfl | assumption) ?_
      rw [decide_eq_false (by rw [ki_le] at h7; rw [ki_lt x]; omega)] at k
      exact k
    · refine ks_K_isKind_10 <| ks_K_isKind_11 <| ks_K_isKind_15 (by first | exact kq_b01' _ | exact Or.inl rfl | exact Or.inr rfl | assumption) ?_
      rw [decide_eq_true (by rw [ki_le] at h7; rw [ki_lt] at h1; rw [ki_le, ki_lt x, ki_0]; rw [ki_0] at h1; omega)] at k
      exact k
theorem kt_K_isFact {x : Int32} (k : Q (some (kq_I (kq_b (decide (0 ≤ x ∧ x < 8))))) μ) : kq_Call d km_K_isFact [kq_I x] μ Q := by
  refine ke_K_isFact ?_
  refine ks_K_isFact_0 <| ks_K_isFact_1 (fun h1 => ?_) (fun h1 => ?_)
  · refine ks_K_isFact_14 <| ks_K_isFact_15 (by first | exact kq_b01' _ | exact Or.inl rfl | exact Or.inr rfl | assumption) ?_
    rw [decide_eq_false (by rw [ki_lt, ki_0] at h1; rw [ki_le, ki_0]; omega)] at k
    exact k
  · refine ks_K_isFact_4 <| ks_K_isFact_5 <| ks_K_isFact_7 (fun h7 => ?_) (fun h7 => ?_)
    · refine ks_K_isFact_14 <| ks_K_isFact_15 (by first | exact kq_b01' _ | exact Or.inl rfl | exact Or.inr rfl | assumption) ?_
      rw [decide_eq_false (by rw [ki_le] at h7; rw [ki_lt x]; omega)] at k
      exact k
    · refine ks_K_isFact_10 <| ks_K_isFact_11 <| ks_K_isFact_15 (by first | exact kq_b01' _ | exact Or.inl rfl | exact Or.inr rfl | assumption) ?_
      rw [decide_eq_true (by rw [ki_le] at h7; rw [ki_lt] at h1; rw [ki_le, ki_lt x, ki_0]; rw [ki_0] at h1; omega)] at k
      exact k
theorem kt_K_isSheet {x : Int32} (k : Q (some (kq_I (kq_b (decide (0 ≤ x ∧ x < 4))))) μ) : kq_Call d km_K_isSheet [kq_I x] μ Q := by
  refine ke_K_isSheet ?_
  refine ks_K_isSheet_0 <| ks_K_isSheet_1 (fun h1 => ?_) (fun h1 => ?_)
  · refine ks_K_isSheet_13 <| ks_K_isSheet_14 (by first | exact kq_b01' _ | exact Or.inl rfl | exact Or.inr rfl | assumption) ?_
    rw [decide_eq_false (by rw [ki_lt, ki_0] at h1; rw [ki_le, ki_0]; omega)] at k
    exact k
  · refine ks_K_isSheet_4 <| ks_K_isSheet_5 <| ks_K_isSheet_6 (fun h6 => ?_) (fun h6 => ?_)
    · refine ks_K_isSheet_13 <| ks_K_isSheet_14 (by first | exact kq_b01' _ | exact Or.inl rfl | exact Or.inr rfl | assumption) ?_
      rw [decide_eq_false (by rw [ki_le] at h6; rw [ki_lt x]; omega)] at k
      exact k
    · refine ks_K_isSheet_9 <| ks_K_isSheet_10 <| ks_K_isSheet_14 (by first | exact kq_b01' _ | exact Or.inl rfl | exact Or.inr rfl | assumption) ?_
      rw [decide_eq_true (by rw [ki_le] at h6; rw [ki_lt] at h1; rw [ki_le, ki_lt x, ki_0]; rw [ki_0] at h1; omega)] at k
      exact k
theorem kt_K_isWithin {x lo hi : Int32} (k : Q (some (kq_I (kq_b (decide (lo ≤ x ∧ x ≤ hi))))) μ) : kq_Call d km_K_isWithin [kq_I x, kq_I lo, kq_I hi] μ Q := by
  refine ke_K_isWithin ?_
  refine ks_K_isWithin_0 <| ks_K_isWithin_1 <| ks_K_isWithin_2 (fun h2 => ?_) (fun h2 => ?_)
  · refine ks_K_isWithin_14 <| ks_K_isWithin_15 (by first | exact kq_b01' _ | exact Or.inl rfl | exact Or.inr rfl | assumption) ?_
    rw [decide_eq_false (by rw [ki_lt] at h2; rw [ki_le]; omega)] at k
    exact k
  · refine ks_K_isWithin_5 <| ks_K_isWithin_6 <| ks_K_isWithin_7 (fun h7 => ?_) (fun h7 => ?_)
    · refine ks_K_isWithin_14 <| ks_K_isWithin_15 (by first | exact kq_b01' _ | exact Or.inl rfl | exact Or.inr rfl | assumption) ?_
      rw [decide_eq_false (by rw [ki_lt] at h7; rw [ki_le x]; omega)] at k
      exact k
    · refine ks_K_isWithin_10 <| ks_K_isWithin_11 <| ks_K_isWithin_15 (by first | exact kq_b01' _ | exact Or.inl rfl | exact Or.inr rfl | assumption) ?_
      rw [decide_eq_true (by rw [ki_lt] at h2 h7; rw [ki_le, ki_le x]; omega)] at k
      exact k
end KT
