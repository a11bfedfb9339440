/-! THE REFERENCE's ROW -/
section KR
variable {μ μ' : kq_M} {i : Nat} {v : kh_S} {x : Int32}
theorem kr_at.m (h : kr_at μ i v) : kq_rI μ 0 i 0 = nI (kh_m v) := h.1
theorem kr_at.H (h : kr_at μ i v) : kq_rI μ 0 i 1 = kh_H v := h.2.1
theorem kr_at.W (h : kr_at μ i v) : kq_rI μ 0 i 2 = kh_W v := h.2.2.1
theorem kr_at.E (h : kr_at μ i v) : kq_rI μ 0 i 3 = kh_E v := h.2.2.2.1
theorem kr_at.B (h : kr_at μ i v) : kq_rI μ 0 i 4 = kh_B v := h.2.2.2.2.1
theorem kr_at.T (h : kr_at μ i v) : kq_rI μ 0 i 5 = kh_T v := h.2.2.2.2.2.1
theorem kr_at.c (h : kr_at μ i v) : kq_rI μ 0 i 6 = nI (kh_c v) := h.2.2.2.2.2.2.1
theorem kr_at.k (h : kr_at μ i v) {w : Nat} (hw : w < kh_c v) : kq_rI μ 0 i (7 + 4 * w) = kh_k v w := h.2.2.2.2.2.2.2.1 w hw
theorem kr_at.n (h : kr_at μ i v) {w : Nat} (hw : w < kh_c v) : kq_rI μ 0 i (7 + 4 * w + 1) = kh_n v w := h.2.2.2.2.2.2.2.2.1 w hw
theorem kr_at.s (h : kr_at μ i v) {w : Nat} (hw : w < kh_c v) : kq_rI μ 0 i (7 + 4 * w + 2) = kh_s v w := h.2.2.2.2.2.2.2.2.2.1 w hw
theorem kr_at.u (h : kr_at μ i v) {w : Nat} (hw : w < kh_c v) : kq_rI μ 0 i (7 + 4 * w + 3) = kh_u v w := h.2.2.2.2.2.2.2.2.2.2 w hw
theorem kr_at.wm (h : kr_at μ i v) {n : Nat} (hx : x = nI n) : kr_at (kq_wI μ 0 i 0 x) i (kh_setM v n) := by
  refine ⟨?_, ?_, ?_, ?_, ?_, ?_, ?_, fun w hw => ?_, fun w hw => ?_, fun w hw => ?_, fun w hw => ?_⟩
  · rw [kc_ws]; exact hx
  · rw [kc_wr (fun q => absurd q.2 (by decide))]; exact h.H
  · rw [kc_wr (fun q => absurd q.2 (by decide))]; exact h.W
  · rw [kc_wr (fun q => absurd q.2 (by decide))]; exact h.E
  · rw [kc_wr (fun q => absurd q.2 (by decide))]; exact h.B
  · rw [kc_wr (fun q => absurd q.2 (by decide))]; exact h.T
  · rw [kc_wr (fun q => absurd q.2 (by decide))]; exact h.c
  · rw [kc_wr (fun q => by have := q.2; omega)]; exact h.k hw
  · rw [kc_wr (fun q => by have := q.2; omega)]; exact h.n hw
  · rw [kc_wr (fun q => by have := q.2; omega)]; exact h.s hw
  · rw [kc_wr (fun q => by have := q.2; omega)]; exact h.u hw
theorem kr_at.wH (h : kr_at μ i v) : kr_at (kq_wI μ 0 i 1 x) i (kh_setH v x) := by
  refine ⟨?_, ?_, ?_, ?_, ?_, ?_, ?_, fun w hw => ?_, fun w hw => ?_, fun w hw => ?_, fun w hw => ?_⟩
  · rw [kc_wr (fun q => absurd q.2 (by decide))]; exact h.m
  · rw [kc_ws]; rfl
  · rw [kc_wr (fun q => absurd q.2 (by decide))]; exact h.W
  · rw [kc_wr (fun q => absurd q.2 (by decide))]; exact h.E
  · rw [kc_wr (fun q => absurd q.2 (by decide))]; exact h.B
  · rw [kc_wr (fun q => absurd q.2 (by decide))]; exact h.T
  · rw [kc_wr (fun q => absurd q.2 (by decide))]; exact h.c
  · rw [kc_wr (fun q => by have := q.2; omega)]; exact h.k hw
  · rw [kc_wr (fun q => by have := q.2; omega)]; exact h.n hw
  · rw [kc_wr (fun q => by have := q.2; omega)]; exact h.s hw
  · rw [kc_wr (fun q => by have := q.2; omega)]; exact h.u hw
theorem kr_at.wW (h : kr_at μ i v) : kr_at (kq_wI μ 0 i 2 x) i (kh_setW v x) := by
  refine ⟨?_, ?_, ?_, ?_, ?_, ?_, ?_, fun w hw => ?_, fun w hw => ?_, fun w hw => ?_, fun w hw => ?_⟩
  · rw [kc_wr (fun q => absurd q.2 (by decide))]; exact h.m
  · rw [kc_wr (fun q => absurd q.2 (by decide))]; exact h.H
  · rw [kc_ws]; rfl
  · rw [kc_wr (fun q => absurd q.2 (by decide))]; exact h.E
  · rw [kc_wr (fun q => absurd q.2 (by decide))]; exact h.B
  · rw [kc_wr (fun q => absurd q.2 (by decide))]; exact h.T
  · rw [kc_wr (fun q => absurd q.2 (by decide))]; exact h.c
  · rw [kc_wr (fun q => by have := q.2; omega)]; exact h.k hw
  · rw [kc_wr (fun q => by have := q.2; omega)]; exact h.n hw
  · rw [kc_wr (fun q => by have := q.2; omega)]; exact h.s hw
  · rw [kc_wr (fun q => by have := q.2; omega)]; exact h.u hw
theorem kr_at.wE (h : kr_at μ i v) : kr_at (kq_wI μ 0 i 3 x) i (kh_setE v x) := by
  refine ⟨?_, ?_, ?_, ?_, ?_, ?_, ?_, fun w hw => ?_, fun w hw => ?_, fun w hw => ?_, fun w hw => ?_⟩
  · rw [kc_wr (fun q => absurd q.2 (by decide))]; exact h.m
  · rw [kc_wr (fun q => absurd q.2 (by decide))]; exact h.H
  · rw [kc_wr (fun q => absurd q.2 (by decide))]; exact h.W
  · rw [kc_ws]; rfl
  · rw [kc_wr (fun q => absurd q.2 (by decide))]; exact h.B
  · rw [kc_wr (fun q => absurd q.2 (by decide))]; exact h.T
  · rw [kc_wr (fun q => absurd q.2 (by decide))]; exact h.c
  · rw [kc_wr (fun q => by have := q.2; omega)]; exact h.k hw
  · rw [kc_wr (fun q => by have := q.2; omega)]; exact h.n hw
  · rw [kc_wr (fun q => by have := q.2; omega)]; exact h.s hw
  · rw [kc_wr (fun q => by have := q.2; omega)]; exact h.u hw
theorem kr_at.wB (h : kr_at μ i v) : kr_at (kq_wI μ 0 i 4 x) i (kh_setB v x) := by
  refine ⟨?_, ?_, ?_, ?_, ?_, ?_, ?_, fun w hw => ?_, fun w hw => ?_, fun w hw => ?_, fun w hw => ?_⟩
  · rw [kc_wr (fun q => absurd q.2 (by decide))]; exact h.m
  · rw [kc_wr (fun q => absurd q.2 (by decide))]; exact h.H
  · rw [kc_wr (fun q => absurd q.2 (by decide))]; exact h.W
  · rw [kc_wr (fun q => absurd q.2 (by decide))]; exact h.E
  · rw [kc_ws]; rfl
  · rw [kc_wr (fun q => absurd q.2 (by decide))]; exact h.T
  · rw [kc_wr (fun q => absurd q.2 (by decide))]; exact h.c
  · rw [kc_wr (fun q => by have := q.2; omega)]; exact h.k hw
  · rw [kc_wr (fun q => by have := q.2; omega)]; exact h.n hw
  · rw [kc_wr (fun q => by have := q.2; omega)]; exact h.s hw
  · rw [kc_wr (fun q => by have := q.2; omega)]; exact h.u hw
theorem kr_at.wT (h : kr_at μ i v) : kr_at (kq_wI μ 0 i 5 x) i (kh_setT v x) := by
  refine ⟨?_, ?_, ?_, ?_, ?_, ?_, ?_, fun w hw => ?_, fun w hw => ?_, fun w hw => ?_, fun w hw => ?_⟩
  · rw [kc_wr (fun q => absurd q.2 (by decide))]; exact h.m
  · rw [kc_wr (fun q => absurd q.2 (by decide))]; exact h.H
  · rw [kc_wr (fun q => absurd q.2 (by decide))]; exact h.W
  · rw [kc_wr (fun q => absurd q.2 (by decide))]; exact h.E
  · rw [kc_wr (fun q => absurd q.2 (by decide))]; exact h.B
  · rw [kc_ws]; rfl
  · rw [kc_wr (fun q => absurd q.2 (by decide))]; exact h.c
  · rw [kc_wr (fun q => by have := q.2; omega)]; exact h.k hw
  · rw [kc_wr (fun q => by have := q.2; omega)]; exact h.n hw
  · rw [kc_wr (fun q => by have := q.2; omega)]; exact h.s hw
  · rw [kc_wr (fun q => by have := q.2; omega)]; exact h.u hw
theorem kr_at.wk (h : kr_at μ i v) {w0 : Nat} : kr_at (kq_wI μ 0 i (7 + 4 * w0) x) i (kh_setk v w0 x) := by
  refine ⟨?_, ?_, ?_, ?_, ?_, ?_, ?_, fun w hw => ?_, fun w hw => ?_, fun w hw => ?_, fun w hw => ?_⟩
  · rw [kc_wr (fun q => by have := q.2; omega)]; exact h.m
  · rw [kc_wr (fun q => by have := q.2; omega)]; exact h.H
  · rw [kc_wr (fun q => by have := q.2; omega)]; exact h.W
  · rw [kc_wr (fun q => by have := q.2; omega)]; exact h.E
  · rw [kc_wr (fun q => by have := q.2; omega)]; exact h.B
  · rw [kc_wr (fun q => by have := q.2; omega)]; exact h.T
  · rw [kc_wr (fun q => by have := q.2; omega)]; exact h.c
  · show _ = kh_up (kh_k v) w0 x w
    unfold kh_up
    by_cases e : w = w0
    · rw [if_pos e, e, kc_ws]
    · rw [if_neg e, kc_wr (fun q => by have := q.2; omega)]; exact h.k hw
  · rw [kc_wr (fun q => by have := q.2; omega)]; exact h.n hw
  · rw [kc_wr (fun q => by have := q.2; omega)]; exact h.s hw
  · rw [kc_wr (fun q => by have := q.2; omega)]; exact h.u hw
theorem kr_at.wn (h : kr_at μ i v) {w0 : Nat} : kr_at (kq_wI μ 0 i (7 + 4 * w0 + 1) x) i (kh_setn v w0 x) := by
  refine ⟨?_, ?_, ?_, ?_, ?_, ?_, ?_, fun w hw => ?_, fun w hw => ?_, fun w hw => ?_, fun w hw => ?_⟩
  · rw [kc_wr (fun q => by have := q.2; omega)]; exact h.m
  · rw [kc_wr (fun q => by have := q.2; omega)]; exact h.H
  · rw [kc_wr (fun q => by have := q.2; omega)]; exact h.W
  · rw [kc_wr (fun q => by have := q.2; omega)]; exact h.E
  · rw [kc_wr (fun q => by have := q.2; omega)]; exact h.B
  · rw [kc_wr (fun q => by have := q.2; omega)]; exact h.T
  · rw [kc_wr (fun q => by have := q.2; omega)]; exact h.c
  · rw [kc_wr (fun q => by have := q.2; omega)]; exact h.k hw
  · show _ = kh_up (kh_n v) w0 x w
    unfold kh_up
    by_cases e : w = w0
    · rw [if_pos e, e, kc_ws]
    · rw [if_neg e, kc_wr (fun q => by have := q.2; omega)]; exact h.n hw
  · rw [kc_wr (fun q => by have := q.2; omega)]; exact h.s hw
  · rw [kc_wr (fun q => by have := q.2; omega)]; exact h.u hw
theorem kr_at.ws (h : kr_at μ i v) {w0 : Nat} : kr_at (kq_wI μ 0 i (7 + 4 * w0 + 2) x) i (kh_sets v w0 x) := by
  refine ⟨?_, ?_, ?_, ?_, ?_, ?_, ?_, fun w hw => ?_, fun w hw => ?_, fun w hw => ?_, fun w hw => ?_⟩
  · rw [kc_wr (fun q => by have := q.2; omega)]; exact h.m
  · rw [kc_wr (fun q => by have := q.2; omega)]; exact h.H
  · rw [kc_wr (fun q => by have := q.2; omega)]; exact h.W
  · rw [kc_wr (fun q => by have := q.2; omega)]; exact h.E
  · rw [kc_wr (fun q => by have := q.2; omega)]; exact h.B
  · rw [kc_wr (fun q => by have := q.2; omega)]; exact h.T
  · rw [kc_wr (fun q => by have := q.2; omega)]; exact h.c
  · rw [kc_wr (fun q => by have := q.2; omega)]; exact h.k hw
  · rw [kc_wr (fun q => by have := q.2; omega)]; exact h.n hw
  · show _ = kh_up (kh_s v) w0 x w
    unfold kh_up
    by_cases e : w = w0
    · rw [if_pos e, e, kc_ws]
    · rw [if_neg e, kc_wr (fun q => by have := q.2; omega)]; exact h.s hw
  · rw [kc_wr (fun q => by have := q.2; omega)]; exact h.u hw
theorem kr_at.wu (h : kr_at μ i v) {w0 : Nat} : kr_at (kq_wI μ 0 i (7 + 4 * w0 + 3) x) i (kh_setu v w0 x) := by
  refine ⟨?_, ?_, ?_, ?_, ?_, ?_, ?_, fun w hw => ?_, fun w hw => ?_, fun w hw => ?_, fun w hw => ?_⟩
  · rw [kc_wr (fun q => by have := q.2; omega)]; exact h.m
  · rw [kc_wr (fun q => by have := q.2; omega)]; exact h.H
  · rw [kc_wr (fun q => by have := q.2; omega)]; exact h.W
  · rw [kc_wr (fun q => by have := q.2; omega)]; exact h.E
  · rw [kc_wr (fun q => by have := q.2; omega)]; exact h.B
  · rw [kc_wr (fun q => by have := q.2; omega)]; exact h.T
  · rw [kc_wr (fun q => by have := q.2; omega)]; exact h.c
  · rw [kc_wr (fun q => by have := q.2; omega)]; exact h.k hw
  · rw [kc_wr (fun q => by have := q.2; omega)]; exact h.n hw
  · rw [kc_wr (fun q => by have := q.2; omega)]; exact h.s hw
  · show _ = kh_up (kh_u v) w0 x w
    unfold kh_up
    by_cases e : w = w0
    · rw [if_pos e, e, kc_ws]
    · rw [if_neg e, kc_wr (fun q => by have := q.2; omega)]; exact h.u hw
theorem kr_at.fr {P : Nat → Nat → Prop} (h : kr_at μ i v) (hf : kq_fr P μ μ') (hp : ¬ P 0 i) : kr_at μ' i v := by
  refine ⟨?_, ?_, ?_, ?_, ?_, ?_, ?_, fun w hw => ?_, fun w hw => ?_, fun w hw => ?_, fun w hw => ?_⟩
  · rw [hf.1 _ _ _ hp]; exact h.m
  · rw [hf.1 _ _ _ hp]; exact h.H
  · rw [hf.1 _ _ _ hp]; exact h.W
  · rw [hf.1 _ _ _ hp]; exact h.E
  · rw [hf.1 _ _ _ hp]; exact h.B
  · rw [hf.1 _ _ _ hp]; exact h.T
  · rw [hf.1 _ _ _ hp]; exact h.c
  · rw [hf.1 _ _ _ hp]; exact h.k hw
  · rw [hf.1 _ _ _ hp]; exact h.n hw
  · rw [hf.1 _ _ _ hp]; exact h.s hw
  · rw [hf.1 _ _ _ hp]; exact h.u hw
theorem kr_at.cp {j : Nat} (h : kr_at μ i v) (hc : kh_c v ≤ 8) (he : ∀ q, q < 39 → kq_rI μ' 0 j q = kq_rI μ 0 i q) : kr_at μ' j v := by
  refine ⟨?_, ?_, ?_, ?_, ?_, ?_, ?_, fun w hw => ?_, fun w hw => ?_, fun w hw => ?_, fun w hw => ?_⟩
  · rw [he _ (by decide)]; exact h.m
  · rw [he _ (by decide)]; exact h.H
  · rw [he _ (by decide)]; exact h.W
  · rw [he _ (by decide)]; exact h.E
  · rw [he _ (by decide)]; exact h.B
  · rw [he _ (by decide)]; exact h.T
  · rw [he _ (by decide)]; exact h.c
  · rw [he _ (by omega)]; exact h.k hw
  · rw [he _ (by omega)]; exact h.n hw
  · rw [he _ (by omega)]; exact h.s hw
  · rw [he _ (by omega)]; exact h.u hw
end KR
