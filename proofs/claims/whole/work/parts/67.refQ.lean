/-! THE REFERENCE's TEXT: tokens -/
def kR_in (t : Nat → Int32) (n : Nat) (μ : kq_M) : Prop := kq_rI μ 0 20 6 = nI n ∧ ∀ j, j < n → kq_rI μ 0 25 j = t j
def tk_cd (t : Nat → Int32) (a : Nat) : Nat → Int64
  | 0 => 0
  | m + 1 => if m < 12 then 27 * tk_cd t a m + (t (a + m)).toInt64 - 96 else -1
def kR_so (o : Nat) : Int32 := if o = 4 then 3 else nI o
def kR_T (t : Nat → Int32) (μ : kq_M) (T : tk_T) : Prop := kq_rI μ 0 20 7 = kR_so (tk_o T) ∧ kq_rI μ 0 20 8 = nI (tk_a T) ∧ kq_rI μ 0 20 9 = nI (tk_e T) ∧ (tk_o T = 1 → kq_rL μ 0 20 10 = tk_cd t (tk_a T) (tk_e T - tk_a T)) ∧ (tk_o T = 2 → kq_rI μ 0 20 11 = nI (min (tk_v T) 10000)) ∧ (tk_o T = 3 → kq_rI μ 0 20 11 = 59) ∧ (tk_o T = 4 → ¬ kq_rI μ 0 20 11 = 59)
def kR_fr (μ μ' : kq_M) : Prop := kq_fr (fun a b => a = 0 ∧ b = 20) μ μ' ∧ ∀ k, (k < 7 ∨ 11 < k) → kq_rI μ' 0 20 k = kq_rI μ 0 20 k
section KM17
variable {d n : Nat} {t : Nat → Int32} {μ μ' : kq_M} {Q : Option kq_V → kq_M → Prop}
theorem kR_fr.rf : kR_fr μ μ := ⟨kq_fr.rf, fun _ _ => rfl⟩
theorem kR_fr.tr {μ'' : kq_M} (h : kR_fr μ μ') (h' : kR_fr μ' μ'') : kR_fr μ μ'' := ⟨h.1.tr h'.1, fun k hk => (h'.2 k hk).trans (h.2 k hk)⟩
theorem kR_fr.w {k : Nat} {x : Int32} (h : kR_fr μ μ') (hk : 7 ≤ k ∧ k ≤ 11) : kR_fr μ (kq_wI μ' 0 20 k x) := ⟨h.1.wI ⟨rfl, rfl⟩, fun c hc => (kc_wr (fun q => by have := q.2; omega)).trans (h.2 c hc)⟩
theorem kR_fr.wl {k : Nat} {x : Int64} (h : kR_fr μ μ') : kR_fr μ (kq_wL μ' 0 20 k x) := ⟨h.1.wL ⟨rfl, rfl⟩, h.2⟩
theorem kR_in.fr (h : kR_in t n μ) (hf : kR_fr μ μ') : kR_in t n μ' := ⟨(hf.2 6 (by decide)).trans h.1, fun j hj => (hf.1.1 _ _ _ (fun q => by cases q.2)).trans (h.2 j hj)⟩
theorem kt_M_byteAt {k : Nat} (hn : n ≤ 120) (hk : k ≤ n) (hi : kR_in t n μ) (kk : Q (some (kq_I (if k < n then t k else -1))) μ) : kq_Call d km_M_byteAt [kq_R 0 20, kq_I (nI k)] μ Q := by
  refine ke_M_byteAt ?_
  refine ks_M_byteAt_0 <| ks_M_byteAt_1 <| ks_M_byteAt_2 <| ks_M_byteAt_5 (fun h5 => ?_) (fun h5 => ?_)
  · rw [hi.1, ki_le, nI_toInt (by omega), nI_toInt (by omega)] at h5
    rw [if_neg (by omega)] at kk
    refine ks_M_byteAt_17 <| ks_M_byteAt_18 ?_
    exact kk
  · rw [hi.1, ki_le, nI_toInt (by omega), nI_toInt (by omega)] at h5
    rw [if_pos (by omega)] at kk
    refine ks_M_byteAt_8 <| ks_M_byteAt_9 <| ks_M_byteAt_12 <| ks_M_byteAt_13n (by omega) <| ks_M_byteAt_14 <| ks_M_byteAt_18 ?_
    rw [hi.2 k (by omega)]
    exact kk
theorem kt_M_isLetter {x : Int32} (k : Q (some (kq_I (kq_b (decide (97 ≤ x ∧ x ≤ 122))))) μ) : kq_Call (d + 1) km_M_isLetter [kq_I x] μ Q := by
  refine ke_M_isLetter ?_
  refine ks_M_isLetter_0 <| ks_M_isLetter_1 <| ks_M_isLetter_3 <| ks_M_isLetter_5 (Nat.le_of_ble_eq_true rfl) ?_
  refine kt_M_in ?_
  refine ks_M_isLetter_8 (by first | exact kq_b01' _ | exact Or.inl rfl | exact Or.inr rfl | assumption) ?_
  exact k
theorem kt_M_isDigit {x : Int32} (k : Q (some (kq_I (kq_b (decide (48 ≤ x ∧ x ≤ 57))))) μ) : kq_Call (d + 1) km_M_isDigit [kq_I x] μ Q := by
  refine ke_M_isDigit ?_
  refine ks_M_isDigit_0 <| ks_M_isDigit_1 <| ks_M_isDigit_3 <| ks_M_isDigit_5 (Nat.le_of_ble_eq_true rfl) ?_
  refine kt_M_in ?_
  refine ks_M_isDigit_8 (by first | exact kq_b01' _ | exact Or.inl rfl | exact Or.inr rfl | assumption) ?_
  exact k
/-- the letters of a word -/
theorem kt_M_letters {s : Nat} {o : Option kq_V} (hT : kC_tp t n) (hs : s ≤ n) (k : ∀ μ', kR_fr μ μ' → kq_rI μ' 0 20 7 = 1 → kq_rI μ' 0 20 8 = nI s → kq_rI μ' 0 20 9 = nI (tk_run t 97 122 (n - s) s) → kq_rL μ' 0 20 10 = tk_cd t s (tk_run t 97 122 (n - s) s - s) → Q none μ') : ∀ (q m : Nat) (μ1 : kq_M), s + m + q = n → kR_in t n μ1 → kR_fr μ μ1 → kq_rI μ1 0 20 7 = 1 → kq_rI μ1 0 20 8 = nI s → kq_rI μ1 0 20 9 = nI (s + m) → kq_rL μ1 0 20 10 = tk_cd t s m → tk_run t 97 122 q (s + m) = tk_run t 97 122 (n - s) s → kq_S km_M_advance (d + 2) 126 [some (kq_R 0 20), o] [] μ1 Q := by
  have hn := hT.1
  have out : ∀ (m : Nat) (μ1 : kq_M), kR_fr μ μ1 → kq_rI μ1 0 20 7 = 1 → kq_rI μ1 0 20 8 = nI s → kq_rI μ1 0 20 9 = nI (s + m) → kq_rL μ1 0 20 10 = tk_cd t s m → s + m = tk_run t 97 122 (n - s) s → kq_S km_M_advance (d + 2) 207 [some (kq_R 0 20), o] [] μ1 Q := by
    intro m μ1 f1 e7 e8 e9 e10 er
    refine ks_M_advance_207 <| ks_M_advance_208 <| ks_M_advance_211 <| ks_M_advance_212 (fun h212 => ?_) (fun h212 => ?_)
    · refine ks_M_advance_281 ?_
      rw [← er, show s + m - s = m by omega] at k
      exact k μ1 f1 e7 e8 e9 e10
    · rw [e7] at h212
      exact absurd h212 (by decide)
  intro q
  induction q with
  | zero =>
    intro m μ1 hm i1 f1 e7 e8 e9 e10 er
    refine ks_M_advance_126 <| ks_M_advance_127 <| ks_M_advance_130 <| ks_M_advance_131 (fun h131 => ?_) (fun h131 => ?_)
    · exact absurd e7 h131
    · refine ks_M_advance_134 <| ks_M_advance_135 <| ks_M_advance_136 <| ks_M_advance_139 (Nat.le_of_ble_eq_true rfl) ?_
      rw [e9]
      refine kt_M_byteAt hn (by omega) i1 ?_
      rw [if_neg (by omega)]
      refine ks_M_advance_142 (Nat.le_of_ble_eq_true rfl) ?_
      refine kt_M_isLetter ?_
      refine ks_M_advance_145 (fun h145 => ?_) (fun h145 => ?_)
      · exact out m μ1 f1 e7 e8 e9 e10 er
      · exact absurd rfl h145
  | succ q ih =>
    intro m μ1 hm i1 f1 e7 e8 e9 e10 er
    have e1 : tk_run t 97 122 (q + 1) (s + m) = if 97 ≤ t (s + m) ∧ t (s + m) ≤ 122 then tk_run t 97 122 q (s + m + 1) else s + m := rfl
    refine ks_M_advance_126 <| ks_M_advance_127 <| ks_M_advance_130 <| ks_M_advance_131 (fun h131 => ?_) (fun h131 => ?_)
    · exact absurd e7 h131
    · refine ks_M_advance_134 <| ks_M_advance_135 <| ks_M_advance_136 <| ks_M_advance_139 (Nat.le_of_ble_eq_true rfl) ?_
      rw [e9]
      refine kt_M_byteAt hn (by omega) i1 ?_
      rw [if_pos (by omega)]
      refine ks_M_advance_142 (Nat.le_of_ble_eq_true rfl) ?_
      refine kt_M_isLetter ?_
      refine ks_M_advance_145 (fun h145 => ?_) (fun h145 => ?_)
      · rw [if_neg (of_decide_eq_false (kq_b_f h145))] at e1
        exact out m μ1 f1 e7 e8 e9 e10 (e1.symm.trans er)
      · rw [if_pos (of_decide_eq_true (kq_b_t h145))] at e1
        have c1 : tk_cd t s (m + 1) = if m < 12 then 27 * tk_cd t s m + (t (s + m)).toInt64 - 96 else -1 := rfl
        have fin : ∀ y : Int64, y = tk_cd t s (m + 1) → kq_S km_M_advance (d + 2) 191 [some (kq_R 0 20), o] [kq_L y, kq_R 0 20] μ1 Q := by
          intro y hy
          refine ks_M_advance_191 <| ks_M_advance_194 <| ks_M_advance_195 rfl <| ks_M_advance_196 <| ks_M_advance_199 <| ks_M_advance_200 <| ks_M_advance_201 <| ks_M_advance_204 ?_
          refine ih (m + 1) _ (by omega) (i1.fr ((kR_fr.rf.wl).w ⟨by decide, by decide⟩)) (f1.wl.w ⟨by decide, by decide⟩) ?_ ?_ ?_ ?_ (e1.symm.trans er)
          · rw [kc_wr (fun q => absurd q.2 (by decide))]; exact e7
          · rw [kc_wr (fun q => absurd q.2 (by decide))]; exact e8
          · rw [kc_ws, show kq_rI (kq_wL μ1 0 20 10 y) 0 20 9 = kq_rI μ1 0 20 9 from rfl, e9, nI_1]; rfl
          · rw [kq_rL_wI, kq_rL_wL, if_pos ⟨rfl, rfl, rfl⟩, hy]
        refine ks_M_advance_148 <| ks_M_advance_149 <| ks_M_advance_150 <| ks_M_advance_153 <| ks_M_advance_154 <| ks_M_advance_157 <| ks_M_advance_158 <| ks_M_advance_160 (fun h160 => ?_) (fun h160 => ?_)
        · rw [e8, e9, kn_sub (by omega) (by omega), ki_le, nI_toInt (by omega), show (12 : Int32).toInt = 12 from by decide] at h160
          rw [if_neg (by omega)] at c1
          refine ks_M_advance_188 ?_
          exact fin _ c1.symm
        · rw [e8, e9, kn_sub (by omega) (by omega), ki_le, nI_toInt (by omega), show (12 : Int32).toInt = 12 from by decide] at h160
          rw [if_pos (by omega)] at c1
          refine ks_M_advance_163 <| ks_M_advance_166 <| ks_M_advance_167 <| ks_M_advance_170 <| ks_M_advance_171 <| ks_M_advance_172 <| ks_M_advance_173 <| ks_M_advance_176 (Nat.le_of_ble_eq_true rfl) ?_
          rw [e9]
          refine kt_M_byteAt hn (by omega) i1 ?_
          rw [if_pos (by omega), e10]
          refine ks_M_advance_179 <| ks_M_advance_180 <| ks_M_advance_181 <| ks_M_advance_184 <| ks_M_advance_185 ?_
          exact fin _ c1.symm
end KM17
