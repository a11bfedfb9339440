/-! THE MADE CELLS AS THE MEMORY (by gen84.py) -/
def ku_prs : List (Nat × Nat) := [(0, 0), (1, 1), (1, 2), (1, 3), (1, 4), (1, 5), (2, 1), (2, 2), (2, 3), (2, 4), (2, 5), (3, 1), (3, 2), (3, 3), (3, 4), (3, 5), (0, 6), (0, 7), (0, 10), (0, 11), (0, 8), (0, 9), (1, 8), (1, 9), (2, 8), (2, 9), (3, 8), (3, 9), (0, 20), (0, 21), (0, 22), (0, 23), (0, 24), (0, 25), (0, 26), (0, 27), (0, 28), (0, 29), (0, 30), (0, 31)]
def ku_ix (r i : Nat) : Nat := match i with
  | 0 => 0
  | 1 => 5 * r - 4
  | 2 => 5 * r - 3
  | 3 => 5 * r - 2
  | 4 => 5 * r - 1
  | 5 => 5 * r
  | 6 => 16
  | 7 => 17
  | 8 => 20 + 2 * r
  | 9 => 21 + 2 * r
  | 10 => 18
  | 11 => 19
  | i => i + 8
def ku_gd (ad : List Nat) (b t1 t2 : Nat) (aK aV : Nat → Nat) (r i : Nat) : Nat := match i with
  | 40 => b
  | 41 => t1
  | 42 => t2
  | 43 => aK r
  | 44 => aV r
  | i => ad.getD (ku_ix r i) 0
def ku_gA (c0 c1 c2 : ClassId) : Nat → ClassId := fun j => match j with
  | 0 => c0
  | 1 => c1
  | _ => c2
def ku_g (D : va_G) (c0 c1 c2 : ClassId) (ad : List Nat) (b t1 t2 : Nat) (aK aV : Nat → Nat) (H0 : Heap) (F : Value) : kq_G := (D, ku_gA c0 c1 c2, ku_gd ad b t1 t2 aK aV, H0, F)
def ku_rI (i k : Nat) : Int32 := if i = 1 then (if k = 2 then 40 else if k = 3 then 20 else 0) else if i = 21 then (if k = 2 then 40 else if k = 4 then 20 else 0) else 0
theorem ku_rI0 {i k : Nat} (h1 : i ≠ 1) (h2 : i ≠ 21) : ku_rI i k = 0 := by
  unfold ku_rI
  rw [if_neg h1, if_neg h2]
def ku_m (L : Nat) (xs : Nat → Int32) : kq_M := (fun _ i k => ku_rI i k, fun _ _ _ => 0, (L, xs))
theorem ku_cases {P : Nat → Nat → Prop} (h0_0 : P 0 0) (h1_1 : P 1 1) (h1_2 : P 1 2) (h1_3 : P 1 3) (h1_4 : P 1 4) (h1_5 : P 1 5) (h2_1 : P 2 1) (h2_2 : P 2 2) (h2_3 : P 2 3) (h2_4 : P 2 4) (h2_5 : P 2 5) (h3_1 : P 3 1) (h3_2 : P 3 2) (h3_3 : P 3 3) (h3_4 : P 3 4) (h3_5 : P 3 5) (h0_6 : P 0 6) (h0_7 : P 0 7) (h0_10 : P 0 10) (h0_11 : P 0 11) (h0_8 : P 0 8) (h0_9 : P 0 9) (h1_8 : P 1 8) (h1_9 : P 1 9) (h2_8 : P 2 8) (h2_9 : P 2 9) (h3_8 : P 3 8) (h3_9 : P 3 9) (h0_20 : P 0 20) (h0_21 : P 0 21) (h0_22 : P 0 22) (h0_23 : P 0 23) (h0_24 : P 0 24) (h0_25 : P 0 25) (h0_26 : P 0 26) (h0_27 : P 0 27) (h0_28 : P 0 28) (h0_29 : P 0 29) (h0_30 : P 0 30) (h0_31 : P 0 31) : ∀ r i, kq_ok i r = true → P r i := by
  intro r i h
  unfold kq_ok at h
  split at h
  · have e := Nat.eq_of_beq_eq_true h
    subst e
    exact h0_0
  · have e : r = 1 ∨ r = 2 ∨ r = 3 := by
      unfold kq_hr at h
      rw [Bool.or_eq_true, Bool.or_eq_true] at h
      rcases h with (h | h) | h
      · exact Or.inl (Nat.eq_of_beq_eq_true h)
      · exact Or.inr (Or.inl (Nat.eq_of_beq_eq_true h))
      · exact Or.inr (Or.inr (Nat.eq_of_beq_eq_true h))
    rcases e with e | e | e
    · subst e; exact h1_1
    · subst e; exact h2_1
    · subst e; exact h3_1
  · have e : r = 1 ∨ r = 2 ∨ r = 3 := by
      unfold kq_hr at h
      rw [Bool.or_eq_true, Bool.or_eq_true] at h
      rcases h with (h | h) | h
      · exact Or.inl (Nat.eq_of_beq_eq_true h)
      · exact Or.inr (Or.inl (Nat.eq_of_beq_eq_true h))
      · exact Or.inr (Or.inr (Nat.eq_of_beq_eq_true h))
    rcases e with e | e | e
    · subst e; exact h1_2
    · subst e; exact h2_2
    · subst e; exact h3_2
  · have e : r = 1 ∨ r = 2 ∨ r = 3 := by
      unfold kq_hr at h
      rw [Bool.or_eq_true, Bool.or_eq_true] at h
      rcases h with (h | h) | h
      · exact Or.inl (Nat.eq_of_beq_eq_true h)
      · exact Or.inr (Or.inl (Nat.eq_of_beq_eq_true h))
      · exact Or.inr (Or.inr (Nat.eq_of_beq_eq_true h))
    rcases e with e | e | e
    · subst e; exact h1_3
    · subst e; exact h2_3
    · subst e; exact h3_3
  · have e : r = 1 ∨ r = 2 ∨ r = 3 := by
      unfold kq_hr at h
      rw [Bool.or_eq_true, Bool.or_eq_true] at h
      rcases h with (h | h) | h
      · exact Or.inl (Nat.eq_of_beq_eq_true h)
      · exact Or.inr (Or.inl (Nat.eq_of_beq_eq_true h))
      · exact Or.inr (Or.inr (Nat.eq_of_beq_eq_true h))
    rcases e with e | e | e
    · subst e; exact h1_4
    · subst e; exact h2_4
    · subst e; exact h3_4
  · have e : r = 1 ∨ r = 2 ∨ r = 3 := by
      unfold kq_hr at h
      rw [Bool.or_eq_true, Bool.or_eq_true] at h
      rcases h with (h | h) | h
      · exact Or.inl (Nat.eq_of_beq_eq_true h)
      · exact Or.inr (Or.inl (Nat.eq_of_beq_eq_true h))
      · exact Or.inr (Or.inr (Nat.eq_of_beq_eq_true h))
    rcases e with e | e | e
    · subst e; exact h1_5
    · subst e; exact h2_5
    · subst e; exact h3_5
  · have e := Nat.eq_of_beq_eq_true h
    subst e
    exact h0_6
  · have e := Nat.eq_of_beq_eq_true h
    subst e
    exact h0_7
  · have e : r < 4 := Nat.le_of_ble_eq_true h
    rcases (show r = 0 ∨ r = 1 ∨ r = 2 ∨ r = 3 by omega) with e | e | e | e
    · subst e; exact h0_8
    · subst e; exact h1_8
    · subst e; exact h2_8
    · subst e; exact h3_8
  · have e : r < 4 := Nat.le_of_ble_eq_true h
    rcases (show r = 0 ∨ r = 1 ∨ r = 2 ∨ r = 3 by omega) with e | e | e | e
    · subst e; exact h0_9
    · subst e; exact h1_9
    · subst e; exact h2_9
    · subst e; exact h3_9
  · have e := Nat.eq_of_beq_eq_true h
    subst e
    exact h0_10
  · have e := Nat.eq_of_beq_eq_true h
    subst e
    exact h0_11
  · have e := Nat.eq_of_beq_eq_true h
    subst e
    exact h0_20
  · have e := Nat.eq_of_beq_eq_true h
    subst e
    exact h0_21
  · have e := Nat.eq_of_beq_eq_true h
    subst e
    exact h0_22
  · have e := Nat.eq_of_beq_eq_true h
    subst e
    exact h0_23
  · have e := Nat.eq_of_beq_eq_true h
    subst e
    exact h0_24
  · have e := Nat.eq_of_beq_eq_true h
    subst e
    exact h0_25
  · have e := Nat.eq_of_beq_eq_true h
    subst e
    exact h0_26
  · have e := Nat.eq_of_beq_eq_true h
    subst e
    exact h0_27
  · have e := Nat.eq_of_beq_eq_true h
    subst e
    exact h0_28
  · have e := Nat.eq_of_beq_eq_true h
    subst e
    exact h0_29
  · have e := Nat.eq_of_beq_eq_true h
    subst e
    exact h0_30
  · have e := Nat.eq_of_beq_eq_true h
    subst e
    exact h0_31
  · exact absurd h (by decide)
theorem ku_ob {D : va_G} {a ci : Nat} {fs : List Value} {H : Heap} {V : Nat → Value} {r : vw_C} (h : va_at D kq_cls (a, .inr (ci, fs)) H) (hr : kq_cls[ci]? = some r) (hv : ∀ k, k < r.2.2 → vp_V fs k = V k) : t_OB a (D.1 ci) r.2.2 (D.2 ci) H V := by
  obtain ⟨r', h1, h2⟩ := h
  have h1' : kq_cls[ci]? = some r' := h1
  have e : r' = r := Option.some.inj (h1'.symm.trans hr)
  subst e
  exact h2.to hv
theorem ku_av {c : ClassId} {n : Nat} {f f' : Nat → Value} (h : ∀ j, j < n → f j = f' j) : arrV c n f = arrV c n f' := by
  unfold arrV
  have e : (fun j : Fin n => f j.val) = fun j => f' j.val := funext fun j => h j.val j.isLt
  rw [e]
theorem ku_ia {D : va_G} {a n : Nat} {c : ClassId} {f f' : Nat → Int32} {H : Heap} (h : va_at D kq_cls (a, .inl (c, n, .inl f)) H) (hf : ∀ j, j < n → f j = f' j) : H[a]? = some (arrV c n (fun j => .int (f' j))) := by
  have h' : H[a]? = some (arrV c n (fun j => .int (f j))) := h
  rw [h', ku_av (f := fun j => .int (f j)) (f' := fun j => .int (f' j)) (fun j hj => by show Value.int (f j) = .int (f' j); rw [hf j hj])]
theorem ku_la {D : va_G} {a n : Nat} {c : ClassId} {f : Nat → Int64} {H : Heap} (h : va_at D kq_cls (a, .inl (c, n, .inr (.inl f))) H) : H[a]? = some (arrV c n (fun j => .long (f j))) := h
theorem ku_qa {D : va_G} {a n : Nat} {c : ClassId} {f : Nat → Option Nat} {f' : Nat → Nat} {H : Heap} (h : va_at D kq_cls (a, .inl (c, n, .inr (.inr (.inr (.inr f))))) H) (hf : ∀ j, j < n → va_rf (f j) = .ref (f' j)) : H[a]? = some (arrV c n (fun j => .ref (f' j))) := by
  have h' : H[a]? = some (arrV c n (fun j => va_rf (f j))) := h
  rw [h', ku_av hf]
theorem ku_row : ∀ j, j < 39 → (upd (upd (fun _ => (0 : Int32)) (2 : Int32).toNatClampNeg 40) (4 : Int32).toNatClampNeg 20) j = ku_rI 21 j := by decide +kernel
theorem ku_sh {k_n5 k_n6 k_n7 k_n8 : Nat} {f' : Nat → Nat} (h0 : f' 0 = k_n5) (h1 : f' 1 = k_n6) (h2 : f' 2 = k_n7) (h3 : f' 3 = k_n8) : ∀ j, j < 4 → va_rf ((va_up (va_up (va_up (va_up (fun _ => none) (0 : Int32).toNatClampNeg (some k_n5)) (1 : Int32).toNatClampNeg (some k_n6)) (2 : Int32).toNatClampNeg (some k_n7)) (3 : Int32).toNatClampNeg (some k_n8)) j) = .ref (f' j) := by
  have e0 : (0 : Int32).toNatClampNeg = 0 := by decide
  have e1 : (1 : Int32).toNatClampNeg = 1 := by decide
  have e2 : (2 : Int32).toNatClampNeg = 2 := by decide
  have e3 : (3 : Int32).toNatClampNeg = 3 := by decide
  intro j hj
  rw [e0, e1, e2, e3]
  match j, hj with
  | 0, _ => rw [h0]; rfl
  | 1, _ => rw [h1]; rfl
  | 2, _ => rw [h2]; rfl
  | 3, _ => rw [h3]; rfl
set_option maxRecDepth 20000 in
theorem ku_Hd {D : va_G} {c0 c1 c2 : ClassId} {kk k_n1 k_n1_q44 k_n1_q52 k_n1_q60 k_n1_q68 k_n2 k_n2_q44 k_n2_q52 k_n2_q60 k_n2_q68 k_n3 k_n3_q44 k_n3_q52 k_n3_q60 k_n3_q68 k_n4 k_n4_q7 k_q55 k_q64 k_n5 k_n5_q17 k_n6 k_n6_q17 k_n7 k_n7_q17 k_n8 k_n8_q17 mm m_q7 m_q15 m_q23 m_q31 m_q39 m_q46 m_q53 m_q62 m_q70 m_q78 m_q86 b t1 t2 : Nat} {aK aV : Nat → Nat} {H0 H : Heap} {F : Value} {locs : List Loc} {L : Nat} {xs : Nat → Int32} (hP : va_P D kq_cls [(kk, .inr (0, [.ref k_n1, .ref k_n2, .ref k_n3, .int 0, .ref k_n4, .ref k_q55, .ref k_q64])), (k_n1, .inr (1, [.int 0, .int 0, .int 40, .int 20, .int 0, .int 0, .int 0, .ref k_n1_q44, .ref k_n1_q52, .ref k_n1_q60, .ref k_n1_q68])), (k_n1_q44, .inl (c0, 8, .inl (fun _ => 0))), (k_n1_q52, .inl (c0, 8, .inl (fun _ => 0))), (k_n1_q60, .inl (c0, 8, .inl (fun _ => 0))), (k_n1_q68, .inl (c0, 8, .inl (fun _ => 0))), (k_n2, .inr (1, [.int 0, .int 0, .int 40, .int 20, .int 0, .int 0, .int 0, .ref k_n2_q44, .ref k_n2_q52, .ref k_n2_q60, .ref k_n2_q68])), (k_n2_q44, .inl (c0, 8, .inl (fun _ => 0))), (k_n2_q52, .inl (c0, 8, .inl (fun _ => 0))), (k_n2_q60, .inl (c0, 8, .inl (fun _ => 0))), (k_n2_q68, .inl (c0, 8, .inl (fun _ => 0))), (k_n3, .inr (1, [.int 0, .int 0, .int 40, .int 20, .int 0, .int 0, .int 0, .ref k_n3_q44, .ref k_n3_q52, .ref k_n3_q60, .ref k_n3_q68])), (k_n3_q44, .inl (c0, 8, .inl (fun _ => 0))), (k_n3_q52, .inl (c0, 8, .inl (fun _ => 0))), (k_n3_q60, .inl (c0, 8, .inl (fun _ => 0))), (k_n3_q68, .inl (c0, 8, .inl (fun _ => 0))), (k_n4, .inr (2, [.ref k_n4_q7, .int 0, .int 0, .int 0, .int 0, .int 0, .int 0])), (k_n4_q7, .inl (c0, 120, .inl (fun _ => 0))), (k_q55, .inl (c2, 4, .inr (.inr (.inr (.inr (va_up (va_up (va_up (va_up (fun _ => none) (0 : Int32).toNatClampNeg (some k_n5)) (1 : Int32).toNatClampNeg (some k_n6)) (2 : Int32).toNatClampNeg (some k_n7)) (3 : Int32).toNatClampNeg (some k_n8))))))), (k_q64, .inl (c0, 7, .inl (fun _ => 0))), (k_n5, .inr (3, [.int 0, .int 0, .ref k_n5_q17])), (k_n5_q17, .inl (c1, 40, .inr (.inl (fun _ => 0)))), (k_n6, .inr (3, [.int 0, .int 0, .ref k_n6_q17])), (k_n6_q17, .inl (c1, 40, .inr (.inl (fun _ => 0)))), (k_n7, .inr (3, [.int 0, .int 0, .ref k_n7_q17])), (k_n7_q17, .inl (c1, 40, .inr (.inl (fun _ => 0)))), (k_n8, .inr (3, [.int 0, .int 0, .ref k_n8_q17])), (k_n8_q17, .inl (c1, 40, .inr (.inl (fun _ => 0)))), (mm, .inr (4, [.ref m_q7, .ref m_q15, .int 0, .ref m_q23, .ref m_q31, .ref m_q39, .int 0, .int 0, .int 0, .int 0, .long 0, .int 0, .int 0, .ref m_q46, .ref m_q53, .ref m_q62, .ref m_q70, .ref m_q78, .ref m_q86, .int 0])), (m_q7, .inl (c0, 39, .inl (upd (upd (fun _ => 0) (2 : Int32).toNatClampNeg 40) (4 : Int32).toNatClampNeg 20))), (m_q15, .inl (c0, 7, .inl (fun _ => 0))), (m_q23, .inl (c0, 39, .inl (fun _ => 0))), (m_q31, .inl (c0, 39, .inl (fun _ => 0))), (m_q39, .inl (c0, 120, .inl (fun _ => 0))), (m_q46, .inl (c0, 4, .inl (fun _ => 0))), (m_q53, .inl (c0, 4, .inl (fun _ => 0))), (m_q62, .inl (c1, 160, .inr (.inl (fun _ => 0)))), (m_q70, .inl (c1, 40, .inr (.inl (fun _ => 0)))), (m_q78, .inl (c0, 39, .inl (fun _ => 0))), (m_q86, .inl (c0, 39, .inl (fun _ => 0)))] H) (hS : va_S (fun q : Nat => H0.size ≤ q) H0 H locs) : kq_Hd (ku_g D c0 c1 c2 [kk, k_n1, k_n1_q44, k_n1_q52, k_n1_q60, k_n1_q68, k_n2, k_n2_q44, k_n2_q52, k_n2_q60, k_n2_q68, k_n3, k_n3_q44, k_n3_q52, k_n3_q60, k_n3_q68, k_n4, k_n4_q7, k_q55, k_q64, k_n5, k_n5_q17, k_n6, k_n6_q17, k_n7, k_n7_q17, k_n8, k_n8_q17, mm, m_q7, m_q15, m_q23, m_q31, m_q39, m_q46, m_q53, m_q62, m_q70, m_q78, m_q86] b t1 t2 aK aV H0 F) (ku_m L xs) H := by
  refine ⟨ku_cases ?_ ?_ ?_ ?_ ?_ ?_ ?_ ?_ ?_ ?_ ?_ ?_ ?_ ?_ ?_ ?_ ?_ ?_ ?_ ?_ ?_ ?_ ?_ ?_ ?_ ?_ ?_ ?_ ?_ ?_ ?_ ?_ ?_ ?_ ?_ ?_ ?_ ?_ ?_ ?_, hS.1, fun q hq => hS.2.1 q hq (by show ¬ H0.size ≤ q; exact Nat.not_le.mpr hq)⟩
  · exact ku_ob (hP 0 _ rfl) rfl (fun k hk => by
      match k, hk with
      | 0, _ => rfl
      | 1, _ => rfl
      | 2, _ => rfl
      | 3, _ => rfl
      | 4, _ => rfl
      | 5, _ => rfl
      | 6, _ => rfl
      | k + 7, h => exact absurd h (by show ¬ k + 7 < 7; omega))
  · exact ku_ob (hP 1 _ rfl) rfl (fun k hk => by
      match k, hk with
      | 0, _ => rfl
      | 1, _ => rfl
      | 2, _ => rfl
      | 3, _ => rfl
      | 4, _ => rfl
      | 5, _ => rfl
      | 6, _ => rfl
      | 7, _ => rfl
      | 8, _ => rfl
      | 9, _ => rfl
      | 10, _ => rfl
      | k + 11, h => exact absurd h (by show ¬ k + 11 < 11; omega))
  · exact ku_ia (f' := fun j => ku_rI 2 j) (hP 2 _ rfl) (fun j _ => (ku_rI0 (by decide) (by decide)).symm)
  · exact ku_ia (f' := fun j => ku_rI 3 j) (hP 3 _ rfl) (fun j _ => (ku_rI0 (by decide) (by decide)).symm)
  · exact ku_ia (f' := fun j => ku_rI 4 j) (hP 4 _ rfl) (fun j _ => (ku_rI0 (by decide) (by decide)).symm)
  · exact ku_ia (f' := fun j => ku_rI 5 j) (hP 5 _ rfl) (fun j _ => (ku_rI0 (by decide) (by decide)).symm)
  · exact ku_ob (hP 6 _ rfl) rfl (fun k hk => by
      match k, hk with
      | 0, _ => rfl
      | 1, _ => rfl
      | 2, _ => rfl
      | 3, _ => rfl
      | 4, _ => rfl
      | 5, _ => rfl
      | 6, _ => rfl
      | 7, _ => rfl
      | 8, _ => rfl
      | 9, _ => rfl
      | 10, _ => rfl
      | k + 11, h => exact absurd h (by show ¬ k + 11 < 11; omega))
  · exact ku_ia (f' := fun j => ku_rI 2 j) (hP 7 _ rfl) (fun j _ => (ku_rI0 (by decide) (by decide)).symm)
  · exact ku_ia (f' := fun j => ku_rI 3 j) (hP 8 _ rfl) (fun j _ => (ku_rI0 (by decide) (by decide)).symm)
  · exact ku_ia (f' := fun j => ku_rI 4 j) (hP 9 _ rfl) (fun j _ => (ku_rI0 (by decide) (by decide)).symm)
  · exact ku_ia (f' := fun j => ku_rI 5 j) (hP 10 _ rfl) (fun j _ => (ku_rI0 (by decide) (by decide)).symm)
  · exact ku_ob (hP 11 _ rfl) rfl (fun k hk => by
      match k, hk with
      | 0, _ => rfl
      | 1, _ => rfl
      | 2, _ => rfl
      | 3, _ => rfl
      | 4, _ => rfl
      | 5, _ => rfl
      | 6, _ => rfl
      | 7, _ => rfl
      | 8, _ => rfl
      | 9, _ => rfl
      | 10, _ => rfl
      | k + 11, h => exact absurd h (by show ¬ k + 11 < 11; omega))
  · exact ku_ia (f' := fun j => ku_rI 2 j) (hP 12 _ rfl) (fun j _ => (ku_rI0 (by decide) (by decide)).symm)
  · exact ku_ia (f' := fun j => ku_rI 3 j) (hP 13 _ rfl) (fun j _ => (ku_rI0 (by decide) (by decide)).symm)
  · exact ku_ia (f' := fun j => ku_rI 4 j) (hP 14 _ rfl) (fun j _ => (ku_rI0 (by decide) (by decide)).symm)
  · exact ku_ia (f' := fun j => ku_rI 5 j) (hP 15 _ rfl) (fun j _ => (ku_rI0 (by decide) (by decide)).symm)
  · exact ku_ob (hP 16 _ rfl) rfl (fun k hk => by
      match k, hk with
      | 0, _ => rfl
      | 1, _ => rfl
      | 2, _ => rfl
      | 3, _ => rfl
      | 4, _ => rfl
      | 5, _ => rfl
      | 6, _ => rfl
      | k + 7, h => exact absurd h (by show ¬ k + 7 < 7; omega))
  · exact ku_ia (f' := fun j => ku_rI 7 j) (hP 17 _ rfl) (fun j _ => (ku_rI0 (by decide) (by decide)).symm)
  · exact ku_qa (hP 18 _ rfl) (ku_sh rfl rfl rfl rfl)
  · exact ku_ia (f' := fun j => ku_rI 11 j) (hP 19 _ rfl) (fun j _ => (ku_rI0 (by decide) (by decide)).symm)
  · exact ku_ob (hP 20 _ rfl) rfl (fun k hk => by
      match k, hk with
      | 0, _ => rfl
      | 1, _ => rfl
      | 2, _ => rfl
      | k + 3, h => exact absurd h (by show ¬ k + 3 < 3; omega))
  · exact ku_la (hP 21 _ rfl)
  · exact ku_ob (hP 22 _ rfl) rfl (fun k hk => by
      match k, hk with
      | 0, _ => rfl
      | 1, _ => rfl
      | 2, _ => rfl
      | k + 3, h => exact absurd h (by show ¬ k + 3 < 3; omega))
  · exact ku_la (hP 23 _ rfl)
  · exact ku_ob (hP 24 _ rfl) rfl (fun k hk => by
      match k, hk with
      | 0, _ => rfl
      | 1, _ => rfl
      | 2, _ => rfl
      | k + 3, h => exact absurd h (by show ¬ k + 3 < 3; omega))
  · exact ku_la (hP 25 _ rfl)
  · exact ku_ob (hP 26 _ rfl) rfl (fun k hk => by
      match k, hk with
      | 0, _ => rfl
      | 1, _ => rfl
      | 2, _ => rfl
      | k + 3, h => exact absurd h (by show ¬ k + 3 < 3; omega))
  · exact ku_la (hP 27 _ rfl)
  · exact ku_ob (hP 28 _ rfl) rfl (fun k hk => by
      match k, hk with
      | 0, _ => rfl
      | 1, _ => rfl
      | 2, _ => rfl
      | 3, _ => rfl
      | 4, _ => rfl
      | 5, _ => rfl
      | 6, _ => rfl
      | 7, _ => rfl
      | 8, _ => rfl
      | 9, _ => rfl
      | 10, _ => rfl
      | 11, _ => rfl
      | 12, _ => rfl
      | 13, _ => rfl
      | 14, _ => rfl
      | 15, _ => rfl
      | 16, _ => rfl
      | 17, _ => rfl
      | 18, _ => rfl
      | 19, _ => rfl
      | k + 20, h => exact absurd h (by show ¬ k + 20 < 20; omega))
  · exact ku_ia (hP 29 _ rfl) ku_row
  · exact ku_ia (f' := fun j => ku_rI 22 j) (hP 30 _ rfl) (fun j _ => (ku_rI0 (by decide) (by decide)).symm)
  · exact ku_ia (f' := fun j => ku_rI 23 j) (hP 31 _ rfl) (fun j _ => (ku_rI0 (by decide) (by decide)).symm)
  · exact ku_ia (f' := fun j => ku_rI 24 j) (hP 32 _ rfl) (fun j _ => (ku_rI0 (by decide) (by decide)).symm)
  · exact ku_ia (f' := fun j => ku_rI 25 j) (hP 33 _ rfl) (fun j _ => (ku_rI0 (by decide) (by decide)).symm)
  · exact ku_ia (f' := fun j => ku_rI 26 j) (hP 34 _ rfl) (fun j _ => (ku_rI0 (by decide) (by decide)).symm)
  · exact ku_ia (f' := fun j => ku_rI 27 j) (hP 35 _ rfl) (fun j _ => (ku_rI0 (by decide) (by decide)).symm)
  · exact ku_la (hP 36 _ rfl)
  · exact ku_la (hP 37 _ rfl)
  · exact ku_ia (f' := fun j => ku_rI 30 j) (hP 38 _ rfl) (fun j _ => (ku_rI0 (by decide) (by decide)).symm)
  · exact ku_ia (f' := fun j => ku_rI 31 j) (hP 39 _ rfl) (fun j _ => (ku_rI0 (by decide) (by decide)).symm)
set_option maxRecDepth 20000 in
theorem ku_at {D : va_G} {c0 c1 c2 : ClassId} {kk k_n1 k_n1_q44 k_n1_q52 k_n1_q60 k_n1_q68 k_n2 k_n2_q44 k_n2_q52 k_n2_q60 k_n2_q68 k_n3 k_n3_q44 k_n3_q52 k_n3_q60 k_n3_q68 k_n4 k_n4_q7 k_q55 k_q64 k_n5 k_n5_q17 k_n6 k_n6_q17 k_n7 k_n7_q17 k_n8 k_n8_q17 mm m_q7 m_q15 m_q23 m_q31 m_q39 m_q46 m_q53 m_q62 m_q70 m_q78 m_q86 b t1 t2 : Nat} {aK aV : Nat → Nat} {H0 H : Heap} {F : Value} {locs : List Loc} (hne : ∀ r i, kq_ok i r = true → ku_prs[ku_ix r i]? = some (r, i)) (hD : va_D (fun q : Nat => H0.size ≤ q) [(kk, .inr (0, [.ref k_n1, .ref k_n2, .ref k_n3, .int 0, .ref k_n4, .ref k_q55, .ref k_q64])), (k_n1, .inr (1, [.int 0, .int 0, .int 40, .int 20, .int 0, .int 0, .int 0, .ref k_n1_q44, .ref k_n1_q52, .ref k_n1_q60, .ref k_n1_q68])), (k_n1_q44, .inl (c0, 8, .inl (fun _ => 0))), (k_n1_q52, .inl (c0, 8, .inl (fun _ => 0))), (k_n1_q60, .inl (c0, 8, .inl (fun _ => 0))), (k_n1_q68, .inl (c0, 8, .inl (fun _ => 0))), (k_n2, .inr (1, [.int 0, .int 0, .int 40, .int 20, .int 0, .int 0, .int 0, .ref k_n2_q44, .ref k_n2_q52, .ref k_n2_q60, .ref k_n2_q68])), (k_n2_q44, .inl (c0, 8, .inl (fun _ => 0))), (k_n2_q52, .inl (c0, 8, .inl (fun _ => 0))), (k_n2_q60, .inl (c0, 8, .inl (fun _ => 0))), (k_n2_q68, .inl (c0, 8, .inl (fun _ => 0))), (k_n3, .inr (1, [.int 0, .int 0, .int 40, .int 20, .int 0, .int 0, .int 0, .ref k_n3_q44, .ref k_n3_q52, .ref k_n3_q60, .ref k_n3_q68])), (k_n3_q44, .inl (c0, 8, .inl (fun _ => 0))), (k_n3_q52, .inl (c0, 8, .inl (fun _ => 0))), (k_n3_q60, .inl (c0, 8, .inl (fun _ => 0))), (k_n3_q68, .inl (c0, 8, .inl (fun _ => 0))), (k_n4, .inr (2, [.ref k_n4_q7, .int 0, .int 0, .int 0, .int 0, .int 0, .int 0])), (k_n4_q7, .inl (c0, 120, .inl (fun _ => 0))), (k_q55, .inl (c2, 4, .inr (.inr (.inr (.inr (va_up (va_up (va_up (va_up (fun _ => none) (0 : Int32).toNatClampNeg (some k_n5)) (1 : Int32).toNatClampNeg (some k_n6)) (2 : Int32).toNatClampNeg (some k_n7)) (3 : Int32).toNatClampNeg (some k_n8))))))), (k_q64, .inl (c0, 7, .inl (fun _ => 0))), (k_n5, .inr (3, [.int 0, .int 0, .ref k_n5_q17])), (k_n5_q17, .inl (c1, 40, .inr (.inl (fun _ => 0)))), (k_n6, .inr (3, [.int 0, .int 0, .ref k_n6_q17])), (k_n6_q17, .inl (c1, 40, .inr (.inl (fun _ => 0)))), (k_n7, .inr (3, [.int 0, .int 0, .ref k_n7_q17])), (k_n7_q17, .inl (c1, 40, .inr (.inl (fun _ => 0)))), (k_n8, .inr (3, [.int 0, .int 0, .ref k_n8_q17])), (k_n8_q17, .inl (c1, 40, .inr (.inl (fun _ => 0)))), (mm, .inr (4, [.ref m_q7, .ref m_q15, .int 0, .ref m_q23, .ref m_q31, .ref m_q39, .int 0, .int 0, .int 0, .int 0, .long 0, .int 0, .int 0, .ref m_q46, .ref m_q53, .ref m_q62, .ref m_q70, .ref m_q78, .ref m_q86, .int 0])), (m_q7, .inl (c0, 39, .inl (upd (upd (fun _ => 0) (2 : Int32).toNatClampNeg 40) (4 : Int32).toNatClampNeg 20))), (m_q15, .inl (c0, 7, .inl (fun _ => 0))), (m_q23, .inl (c0, 39, .inl (fun _ => 0))), (m_q31, .inl (c0, 39, .inl (fun _ => 0))), (m_q39, .inl (c0, 120, .inl (fun _ => 0))), (m_q46, .inl (c0, 4, .inl (fun _ => 0))), (m_q53, .inl (c0, 4, .inl (fun _ => 0))), (m_q62, .inl (c1, 160, .inr (.inl (fun _ => 0)))), (m_q70, .inl (c1, 40, .inr (.inl (fun _ => 0)))), (m_q78, .inl (c0, 39, .inl (fun _ => 0))), (m_q86, .inl (c0, 39, .inl (fun _ => 0)))]) : kq_Ap (ku_g D c0 c1 c2 [kk, k_n1, k_n1_q44, k_n1_q52, k_n1_q60, k_n1_q68, k_n2, k_n2_q44, k_n2_q52, k_n2_q60, k_n2_q68, k_n3, k_n3_q44, k_n3_q52, k_n3_q60, k_n3_q68, k_n4, k_n4_q7, k_q55, k_q64, k_n5, k_n5_q17, k_n6, k_n6_q17, k_n7, k_n7_q17, k_n8, k_n8_q17, mm, m_q7, m_q15, m_q23, m_q31, m_q39, m_q46, m_q53, m_q62, m_q70, m_q78, m_q86] b t1 t2 aK aV H0 F) := by
  have at' : ∀ r i, kq_ok i r = true → ∃ e : va_E, ([(kk, .inr (0, [.ref k_n1, .ref k_n2, .ref k_n3, .int 0, .ref k_n4, .ref k_q55, .ref k_q64])), (k_n1, .inr (1, [.int 0, .int 0, .int 40, .int 20, .int 0, .int 0, .int 0, .ref k_n1_q44, .ref k_n1_q52, .ref k_n1_q60, .ref k_n1_q68])), (k_n1_q44, .inl (c0, 8, .inl (fun _ => 0))), (k_n1_q52, .inl (c0, 8, .inl (fun _ => 0))), (k_n1_q60, .inl (c0, 8, .inl (fun _ => 0))), (k_n1_q68, .inl (c0, 8, .inl (fun _ => 0))), (k_n2, .inr (1, [.int 0, .int 0, .int 40, .int 20, .int 0, .int 0, .int 0, .ref k_n2_q44, .ref k_n2_q52, .ref k_n2_q60, .ref k_n2_q68])), (k_n2_q44, .inl (c0, 8, .inl (fun _ => 0))), (k_n2_q52, .inl (c0, 8, .inl (fun _ => 0))), (k_n2_q60, .inl (c0, 8, .inl (fun _ => 0))), (k_n2_q68, .inl (c0, 8, .inl (fun _ => 0))), (k_n3, .inr (1, [.int 0, .int 0, .int 40, .int 20, .int 0, .int 0, .int 0, .ref k_n3_q44, .ref k_n3_q52, .ref k_n3_q60, .ref k_n3_q68])), (k_n3_q44, .inl (c0, 8, .inl (fun _ => 0))), (k_n3_q52, .inl (c0, 8, .inl (fun _ => 0))), (k_n3_q60, .inl (c0, 8, .inl (fun _ => 0))), (k_n3_q68, .inl (c0, 8, .inl (fun _ => 0))), (k_n4, .inr (2, [.ref k_n4_q7, .int 0, .int 0, .int 0, .int 0, .int 0, .int 0])), (k_n4_q7, .inl (c0, 120, .inl (fun _ => 0))), (k_q55, .inl (c2, 4, .inr (.inr (.inr (.inr (va_up (va_up (va_up (va_up (fun _ => none) (0 : Int32).toNatClampNeg (some k_n5)) (1 : Int32).toNatClampNeg (some k_n6)) (2 : Int32).toNatClampNeg (some k_n7)) (3 : Int32).toNatClampNeg (some k_n8))))))), (k_q64, .inl (c0, 7, .inl (fun _ => 0))), (k_n5, .inr (3, [.int 0, .int 0, .ref k_n5_q17])), (k_n5_q17, .inl (c1, 40, .inr (.inl (fun _ => 0)))), (k_n6, .inr (3, [.int 0, .int 0, .ref k_n6_q17])), (k_n6_q17, .inl (c1, 40, .inr (.inl (fun _ => 0)))), (k_n7, .inr (3, [.int 0, .int 0, .ref k_n7_q17])), (k_n7_q17, .inl (c1, 40, .inr (.inl (fun _ => 0)))), (k_n8, .inr (3, [.int 0, .int 0, .ref k_n8_q17])), (k_n8_q17, .inl (c1, 40, .inr (.inl (fun _ => 0)))), (mm, .inr (4, [.ref m_q7, .ref m_q15, .int 0, .ref m_q23, .ref m_q31, .ref m_q39, .int 0, .int 0, .int 0, .int 0, .long 0, .int 0, .int 0, .ref m_q46, .ref m_q53, .ref m_q62, .ref m_q70, .ref m_q78, .ref m_q86, .int 0])), (m_q7, .inl (c0, 39, .inl (upd (upd (fun _ => 0) (2 : Int32).toNatClampNeg 40) (4 : Int32).toNatClampNeg 20))), (m_q15, .inl (c0, 7, .inl (fun _ => 0))), (m_q23, .inl (c0, 39, .inl (fun _ => 0))), (m_q31, .inl (c0, 39, .inl (fun _ => 0))), (m_q39, .inl (c0, 120, .inl (fun _ => 0))), (m_q46, .inl (c0, 4, .inl (fun _ => 0))), (m_q53, .inl (c0, 4, .inl (fun _ => 0))), (m_q62, .inl (c1, 160, .inr (.inl (fun _ => 0)))), (m_q70, .inl (c1, 40, .inr (.inl (fun _ => 0)))), (m_q78, .inl (c0, 39, .inl (fun _ => 0))), (m_q86, .inl (c0, 39, .inl (fun _ => 0)))] : va_W)[ku_ix r i]? = some (kq_gd (ku_g D c0 c1 c2 [kk, k_n1, k_n1_q44, k_n1_q52, k_n1_q60, k_n1_q68, k_n2, k_n2_q44, k_n2_q52, k_n2_q60, k_n2_q68, k_n3, k_n3_q44, k_n3_q52, k_n3_q60, k_n3_q68, k_n4, k_n4_q7, k_q55, k_q64, k_n5, k_n5_q17, k_n6, k_n6_q17, k_n7, k_n7_q17, k_n8, k_n8_q17, mm, m_q7, m_q15, m_q23, m_q31, m_q39, m_q46, m_q53, m_q62, m_q70, m_q78, m_q86] b t1 t2 aK aV H0 F) r i, e) := ku_cases ⟨_, rfl⟩ ⟨_, rfl⟩ ⟨_, rfl⟩ ⟨_, rfl⟩ ⟨_, rfl⟩ ⟨_, rfl⟩ ⟨_, rfl⟩ ⟨_, rfl⟩ ⟨_, rfl⟩ ⟨_, rfl⟩ ⟨_, rfl⟩ ⟨_, rfl⟩ ⟨_, rfl⟩ ⟨_, rfl⟩ ⟨_, rfl⟩ ⟨_, rfl⟩ ⟨_, rfl⟩ ⟨_, rfl⟩ ⟨_, rfl⟩ ⟨_, rfl⟩ ⟨_, rfl⟩ ⟨_, rfl⟩ ⟨_, rfl⟩ ⟨_, rfl⟩ ⟨_, rfl⟩ ⟨_, rfl⟩ ⟨_, rfl⟩ ⟨_, rfl⟩ ⟨_, rfl⟩ ⟨_, rfl⟩ ⟨_, rfl⟩ ⟨_, rfl⟩ ⟨_, rfl⟩ ⟨_, rfl⟩ ⟨_, rfl⟩ ⟨_, rfl⟩ ⟨_, rfl⟩ ⟨_, rfl⟩ ⟨_, rfl⟩ ⟨_, rfl⟩
  refine ⟨fun r i r' i' h h' e => ?_, fun r i h => ?_⟩
  · obtain ⟨e1, q1⟩ := at' r i h
    obtain ⟨e2, q2⟩ := at' r' i' h'
    have q := hD.1 _ _ _ _ q1 q2 e
    have p1 := hne r i h
    rw [q, hne r' i' h'] at p1
    cases p1
    exact ⟨rfl, rfl⟩
  · obtain ⟨e1, q1⟩ := at' r i h
    exact hD.2 _ _ q1
theorem ku_ne : ∀ r i, kq_ok i r = true → ku_prs[ku_ix r i]? = some (r, i) := ku_cases rfl rfl rfl rfl rfl rfl rfl rfl rfl rfl rfl rfl rfl rfl rfl rfl rfl rfl rfl rfl rfl rfl rfl rfl rfl rfl rfl rfl rfl rfl rfl rfl rfl rfl rfl rfl rfl rfl rfl rfl
/-! the state at the start -/
def ku_v : kh_S := kh_mk 0 0 40 20 0 0 0 (fun _ => 0) (fun _ => 0) (fun _ => 0) (fun _ => 0)
def ku_z : kz_S := (ku_v, false, ku_v, 0, fun _ => 0, fun _ => 0, fun _ => 0, fun _ _ => 0, fun _ => 0)
theorem ku_I {L : Nat} {xs : Nat → Int32} : kl_I L xs (ku_m L xs) ku_z := by
  have n0 : ∀ w, ¬ w < kh_c ku_v := fun w => Nat.not_lt_zero w
  have i0 : ∀ {i k : Nat}, i ≠ 1 → i ≠ 21 → ∀ r, kq_rI (ku_m L xs) r i k = 0 := fun h1 h2 _ => ku_rI0 h1 h2
  refine ⟨⟨⟨rfl, rfl, rfl, rfl, rfl, nI_0.symm, nI_0.symm, fun w h => absurd h (n0 w), fun w h => absurd h (n0 w), fun w h => absurd h (n0 w), fun w h => absurd h (n0 w)⟩, rfl, fun h => absurd h (by show ¬ false = true; decide), nI_0.symm, fun j h => absurd h (Nat.not_lt_zero j), fun s _ => i0 (by decide) (by decide) s, fun s _ => (i0 (by decide) (by decide) s).trans nI_0.symm, fun s _ j _ => rfl, fun k _ => i0 (by decide) (by decide) 0⟩,
    ⟨⟨nI_0.symm, rfl, rfl, rfl, rfl, rfl, nI_0.symm, fun w h => absurd h (n0 w), fun w h => absurd h (n0 w), fun w h => absurd h (n0 w), fun w h => absurd h (n0 w)⟩, rfl, fun h => absurd h (by show ¬ false = true; decide), nI_0.symm, fun j h => absurd h (Nat.not_lt_zero j), fun s _ => i0 (by decide) (by decide) 0, fun s _ => (i0 (by decide) (by decide) 0).trans nI_0.symm, fun s _ j _ => rfl, fun k _ => i0 (by decide) (by decide) 0⟩, ?_, rfl⟩
  refine ⟨⟨⟨Nat.zero_le _, ⟨by decide, by decide⟩, ⟨by decide, by decide⟩, ⟨by decide, by decide⟩, ⟨by decide, by decide⟩, ⟨by decide, by decide⟩, (by show 0 < 1000000; decide), fun w h => absurd h (n0 w), fun w h => absurd h (n0 w), fun w h => absurd h (n0 w), fun w h => absurd h (n0 w)⟩, Nat.zero_le _⟩, fun h => absurd h (by show ¬ false = true; decide), Nat.zero_le _, fun j h => absurd h (Nat.not_lt_zero j), fun s _ => Nat.zero_le _⟩
