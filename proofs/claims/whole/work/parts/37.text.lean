/-! THE TEXT: tokens (sort, start, end, value), and what they say -/
abbrev tk_T : Type := Nat × Nat × Nat × Nat
def tk_o (T : tk_T) : Nat := T.1
def tk_a (T : tk_T) : Nat := T.2.1
def tk_e (T : tk_T) : Nat := T.2.2.1
def tk_v (T : tk_T) : Nat := T.2.2.2
def tk_sk (t : Nat → Int32) : Nat → Nat → Nat
  | 0, p => p
  | q + 1, p => if t p = 32 then tk_sk t q (p + 1) else p
def tk_run (t : Nat → Int32) (lo hi : Int32) : Nat → Nat → Nat
  | 0, p => p
  | q + 1, p => if lo ≤ t p ∧ t p ≤ hi then tk_run t lo hi q (p + 1) else p
def tk_val (t : Nat → Int32) (a : Nat) : Nat → Nat
  | 0 => 0
  | m + 1 => 10 * tk_val t a m + (kh_nat (t (a + m)) - 48)
def tk_mk (t : Nat → Int32) (n s : Nat) : tk_T :=
  if n ≤ s then (0, s, s, 0) else if 97 ≤ t s ∧ t s ≤ 122 then (1, s, tk_run t 97 122 (n - s) s, 0)
  else if 48 ≤ t s ∧ t s ≤ 57 then (2, s, tk_run t 48 57 (n - s) s, tk_val t s (tk_run t 48 57 (n - s) s - s)) else if t s = 59 then (3, s, s + 1, 0) else (4, s, s + 1, 0)
def tk_at (t : Nat → Int32) (n p : Nat) : tk_T := tk_mk t n (tk_sk t (n - p) p)
def tk_nx (t : Nat → Int32) (n : Nat) (T : tk_T) : tk_T := tk_at t n (tk_e T)
def tk_w (t : Nat → Int32) (T : tk_T) (r : Nat) : Bool := decide (tk_o T = 1 ∧ tk_e T - tk_a T = kq_sl.getD r 0 ∧ ∀ i, i < kq_sl.getD r 0 → t (tk_a T + i) = (kq_sb.getD r []).getD i 0)
def tk_num (T : tk_T) (m : Nat) : Bool := decide (tk_o T = 2 ∧ tk_v T ≤ m)
def tk_bit (T : tk_T) : Int32 := (1 : Int32) <<< (nI (tk_v T) &&& 31)
def tk_fs (t : Nat → Int32) (n : Nat) : Nat → Int32 → Nat → tk_T → Int32 × Nat × tk_T
  | 0, S, c, T => (S, c, T)
  | q + 1, S, c, T => if tk_num T 7 = true then tk_fs t n q (S ||| tk_bit T) (c + 1) (tk_nx t n T) else (S, c, T)
def tk_sure (t : Nat → Int32) (n : Nat) (T : tk_T) : Bool × Int32 × tk_T :=
  if tk_w t T 6 = true then (if tk_num (tk_nx t n T) 9 = true then (true, nI (tk_v (tk_nx t n T)), tk_nx t n (tk_nx t n T)) else (false, 3, tk_nx t n T)) else (true, 3, T)
def tk_fact (t : Nat → Int32) (n r : Nat) (T : tk_T) : Bool × Int32 × tk_T :=
  if tk_w t T r = true then (decide (0 < (tk_fs t n 4 0 0 (tk_nx t n T)).2.1), (tk_fs t n 4 0 0 (tk_nx t n T)).1, (tk_fs t n 4 0 0 (tk_nx t n T)).2.2) else (true, 0, T)
def tk_wit (t : Nat → Int32) (n : Nat) (v : kh_S) (k : Int32) (T : tk_T) : Bool × kh_S × tk_T :=
  if 8 ≤ kh_c v then (false, v, T) else if (tk_sure t n (tk_nx t n T)).1 = false then (false, v, (tk_sure t n (tk_nx t n T)).2.2)
  else if (tk_fact t n 7 (tk_sure t n (tk_nx t n T)).2.2).1 = false then (false, v, (tk_fact t n 7 (tk_sure t n (tk_nx t n T)).2.2).2.2)
  else if (tk_fact t n 8 (tk_fact t n 7 (tk_sure t n (tk_nx t n T)).2.2).2.2).1 = false then (false, v, (tk_fact t n 8 (tk_fact t n 7 (tk_sure t n (tk_nx t n T)).2.2).2.2).2.2)
  else (true, kh_add v k (tk_fact t n 8 (tk_fact t n 7 (tk_sure t n (tk_nx t n T)).2.2).2.2).2.1 (tk_fact t n 7 (tk_sure t n (tk_nx t n T)).2.2).2.1 (tk_sure t n (tk_nx t n T)).2.1, (tk_fact t n 8 (tk_fact t n 7 (tk_sure t n (tk_nx t n T)).2.2).2.2).2.2)
def tk_tr (t : Nat → Int32) (n : Nat) (v : kh_S) (b : Bool) (T : tk_T) : Bool × kh_S × tk_T :=
  if tk_num (tk_nx t n T) 7 = true then (true, kh_setT v (if b = true then kh_T v ||| tk_bit (tk_nx t n T) else kh_T v &&& (tk_bit (tk_nx t n T) ^^^ (-1))), tk_nx t n (tk_nx t n T)) else (false, v, tk_nx t n T)
def tk_wa (t : Nat → Int32) (n : Nat) (v : kh_S) (T : tk_T) : Bool × kh_S × tk_T :=
  if tk_num (tk_nx t n T) 99 = true then (true, kh_setW v (nI (tk_v (tk_nx t n T))), tk_nx t n (tk_nx t n T)) else (false, v, tk_nx t n T)
def tk_kind (t : Nat → Int32) (T : tk_T) : Int32 :=
  if tk_w t T 5 = true then 0 else if tk_w t T 0 = true then 1 else if tk_w t T 1 = true then 2 else if tk_w t T 2 = true then 3 else if tk_w t T 3 = true then 4 else if tk_w t T 4 = true then 5 else -1
def tk_item (t : Nat → Int32) (n : Nat) (v : kh_S) (T : tk_T) : Bool × kh_S × tk_T :=
  if 0 ≤ tk_kind t T then tk_wit t n v (tk_kind t T) T else if tk_w t T 9 = true then tk_tr t n v true T else if tk_w t T 10 = true then tk_tr t n v false T else if tk_w t T 11 = true then tk_wa t n v T else (false, v, T)
def tk_all (t : Nat → Int32) (n : Nat) : Nat → Nat → kh_S → Nat → Int32 × Option kh_S
  | 0, _, _, _ => (0, none)
  | q + 1, i, v, p =>
    if (tk_item t n v (tk_at t n p)).1 = false then (-1 - nI (tk_a (tk_item t n v (tk_at t n p)).2.2), none)
    else if tk_o (tk_item t n v (tk_at t n p)).2.2 = 3 then tk_all t n q (i + 1) (tk_item t n v (tk_at t n p)).2.1 (tk_e (tk_item t n v (tk_at t n p)).2.2)
    else if tk_o (tk_item t n v (tk_at t n p)).2.2 = 0 then (nI (i + 1), some (tk_item t n v (tk_at t n p)).2.1) else (-1 - nI (tk_a (tk_item t n v (tk_at t n p)).2.2), none)
def sp_inquest (z : kz_S) : Int32 × kz_S :=
  ((tk_all (kz_t z) (kz_n z) 121 0 (kz_h z) 0).1, kz_sett (match (tk_all (kz_t z) (kz_n z) 121 0 (kz_h z) 0).2 with | some v => kz_seth z v | none => z) 0 (kz_t z))
section TK
variable {t : Nat → Int32} {n : Nat}
theorem tk_sk_le : ∀ (q p : Nat), p ≤ tk_sk t q p ∧ tk_sk t q p ≤ p + q
  | 0, p => ⟨Nat.le_refl _, Nat.le_refl _⟩
  | q + 1, p => by
    show p ≤ (if t p = 32 then tk_sk t q (p + 1) else p) ∧ (if t p = 32 then tk_sk t q (p + 1) else p) ≤ p + (q + 1)
    have := tk_sk_le q (p + 1)
    split <;> omega
theorem tk_run_le {lo hi : Int32} : ∀ (q p : Nat), p ≤ tk_run t lo hi q p ∧ tk_run t lo hi q p ≤ p + q
  | 0, p => ⟨Nat.le_refl _, Nat.le_refl _⟩
  | q + 1, p => by
    show p ≤ (if lo ≤ t p ∧ t p ≤ hi then tk_run t lo hi q (p + 1) else p) ∧ (if lo ≤ t p ∧ t p ≤ hi then tk_run t lo hi q (p + 1) else p) ≤ p + (q + 1)
    have := tk_run_le (lo := lo) (hi := hi) q (p + 1)
    split <;> omega
theorem tk_run_in {lo hi : Int32} : ∀ (q p j : Nat), p ≤ j → j < tk_run t lo hi q p → lo ≤ t j ∧ t j ≤ hi
  | 0, p, j, h1, h2 => absurd h2 (Nat.not_lt.mpr h1)
  | q + 1, p, j, h1, h2 => by
    have e : tk_run t lo hi (q + 1) p = if lo ≤ t p ∧ t p ≤ hi then tk_run t lo hi q (p + 1) else p := rfl
    rw [e] at h2
    by_cases h : lo ≤ t p ∧ t p ≤ hi
    · rw [if_pos h] at h2
      by_cases ej : j = p
      · rw [ej]; exact h
      · exact tk_run_in q (p + 1) j (by omega) h2
    · rw [if_neg h] at h2
      omega
theorem tk_run_1 {lo hi : Int32} {p : Nat} (hp : p < n) (h : lo ≤ t p ∧ t p ≤ hi) : p < tk_run t lo hi (n - p) p := by
  obtain ⟨q, hq⟩ : ∃ q, n - p = q + 1 := ⟨n - p - 1, by omega⟩
  rw [hq]
  show p < (if lo ≤ t p ∧ t p ≤ hi then tk_run t lo hi q (p + 1) else p)
  rw [if_pos h]
  have := (tk_run_le (t := t) (lo := lo) (hi := hi) q (p + 1)).1
  omega
theorem tk_mk_ok {s : Nat} (hs : s ≤ n) : tk_a (tk_mk t n s) = s ∧ s ≤ tk_e (tk_mk t n s) ∧ tk_e (tk_mk t n s) ≤ n ∧ (tk_o (tk_mk t n s) ≠ 0 → s < tk_e (tk_mk t n s)) ∧ tk_o (tk_mk t n s) ≤ 4 := by
  unfold tk_mk
  by_cases h1 : n ≤ s
  · rw [if_pos h1]
    exact ⟨rfl, Nat.le_refl _, hs, fun q => absurd rfl q, Nat.zero_le _⟩
  · rw [if_neg h1]
    by_cases h2 : 97 ≤ t s ∧ t s ≤ 122
    · rw [if_pos h2]
      have r1 := tk_run_le (t := t) (lo := 97) (hi := 122) (n - s) s
      have r2 := tk_run_1 (n := n) (by omega) h2
      exact ⟨rfl, r1.1, (by show tk_run t 97 122 (n - s) s ≤ n; omega), fun _ => r2, (by show 1 ≤ 4; decide)⟩
    · rw [if_neg h2]
      by_cases h3 : 48 ≤ t s ∧ t s ≤ 57
      · rw [if_pos h3]
        have r1 := tk_run_le (t := t) (lo := 48) (hi := 57) (n - s) s
        have r2 := tk_run_1 (n := n) (by omega) h3
        exact ⟨rfl, r1.1, (by show tk_run t 48 57 (n - s) s ≤ n; omega), fun _ => r2, (by show 2 ≤ 4; decide)⟩
      · rw [if_neg h3]
        split
        · exact ⟨rfl, Nat.le_succ _, (by show s + 1 ≤ n; omega), fun _ => Nat.lt_succ_self _, (by show 3 ≤ 4; decide)⟩
        · exact ⟨rfl, Nat.le_succ _, (by show s + 1 ≤ n; omega), fun _ => Nat.lt_succ_self _, (by show 4 ≤ 4; decide)⟩
theorem tk_at_ok {p : Nat} (hp : p ≤ n) : p ≤ tk_a (tk_at t n p) ∧ tk_a (tk_at t n p) ≤ tk_e (tk_at t n p) ∧ tk_e (tk_at t n p) ≤ n ∧ (tk_o (tk_at t n p) ≠ 0 → tk_a (tk_at t n p) < tk_e (tk_at t n p)) ∧ tk_o (tk_at t n p) ≤ 4 := by
  have s := tk_sk_le (t := t) (n - p) p
  have m := tk_mk_ok (t := t) (n := n) (s := tk_sk t (n - p) p) (by omega)
  unfold tk_at
  rw [m.1]
  exact ⟨s.1, m.2.1, m.2.2.1, m.2.2.2.1, m.2.2.2.2⟩
/-- a token of the tape, from p on -/
def tk_fr (t : Nat → Int32) (n p : Nat) (T : tk_T) : Prop := ∃ p', p ≤ p' ∧ p' ≤ n ∧ T = tk_at t n p'
theorem tk_fr.nx {p : Nat} {T : tk_T} (h : tk_fr t n p T) : tk_fr t n p (tk_nx t n T) := by
  obtain ⟨p', h1, h2, rfl⟩ := h
  have o := tk_at_ok (t := t) h2
  exact ⟨_, by omega, o.2.2.1, rfl⟩
theorem tk_fr.nx1 {p : Nat} {T : tk_T} (h : tk_fr t n p T) (ho : tk_o T ≠ 0) : tk_fr t n (p + 1) (tk_nx t n T) := by
  obtain ⟨p', h1, h2, rfl⟩ := h
  have o := tk_at_ok (t := t) h2
  have := o.2.2.2.1 ho
  exact ⟨_, by omega, o.2.2.1, rfl⟩
theorem tk_fr.ae {p : Nat} {T : tk_T} (h : tk_fr t n p T) : p ≤ tk_a T ∧ tk_a T ≤ tk_e T ∧ tk_e T ≤ n ∧ (tk_o T ≠ 0 → tk_a T < tk_e T) ∧ tk_o T ≤ 4 := by
  obtain ⟨p', h1, h2, rfl⟩ := h
  have o := tk_at_ok (t := t) h2
  exact ⟨by omega, o.2.1, o.2.2.1, o.2.2.2.1, o.2.2.2.2⟩
theorem tk_fr.mono {p p' : Nat} {T : tk_T} (h : tk_fr t n p T) (hp : p' ≤ p) : tk_fr t n p' T := by
  obtain ⟨x, h1, h2, h3⟩ := h
  exact ⟨x, by omega, h2, h3⟩
theorem tk_w1 {T : tk_T} {r : Nat} (h : tk_w t T r = true) : tk_o T = 1 := (of_decide_eq_true h).1
theorem tk_n2 {T : tk_T} {m : Nat} (h : tk_num T m = true) : tk_o T = 2 ∧ tk_v T ≤ m := of_decide_eq_true h
theorem tk_fs_fr {p : Nat} : ∀ (q : Nat) (S : Int32) (c : Nat) (T : tk_T), tk_fr t n p T → tk_fr t n p (tk_fs t n q S c T).2.2
  | 0, _, _, _, h => h
  | q + 1, S, c, T, h => by
    show tk_fr t n p (if tk_num T 7 = true then tk_fs t n q (S ||| tk_bit T) (c + 1) (tk_nx t n T) else (S, c, T)).2.2
    split
    · exact tk_fs_fr q _ _ _ h.nx
    · exact h
theorem tk_bit_le {T : tk_T} (h : tk_num T 7 = true) : ∃ f : Nat, f < 8 ∧ tk_bit T = (1 : Int32) <<< (nI f &&& 31) := ⟨tk_v T, by have := (tk_n2 h).2; omega, rfl⟩
theorem tk_fs_in : ∀ (q : Nat) (S : Int32) (c : Nat) (T : tk_T), kh_in S 0 255 → kh_in (tk_fs t n q S c T).1 0 255
  | 0, _, _, _, h => h
  | q + 1, S, c, T, h => by
    show kh_in (if tk_num T 7 = true then tk_fs t n q (S ||| tk_bit T) (c + 1) (tk_nx t n T) else (S, c, T)).1 0 255
    split
    · next hn =>
      obtain ⟨f, hf, e⟩ := tk_bit_le hn
      exact tk_fs_in q _ _ _ (by rw [e]; exact kh_or255 h hf)
    · exact h
theorem tk_sure_fr {p : Nat} {T : tk_T} (h : tk_fr t n p T) : tk_fr t n p (tk_sure t n T).2.2 ∧ kh_in (tk_sure t n T).2.1 0 9 := by
  unfold tk_sure
  split
  · split
    · next hn => exact ⟨h.nx.nx, kh_in_of 9 (tk_n2 hn).2 (by decide) (by decide)⟩
    · exact ⟨h.nx, (show kh_in 3 0 9 from ⟨by decide, by decide⟩)⟩
  · exact ⟨h, (show kh_in 3 0 9 from ⟨by decide, by decide⟩)⟩
theorem tk_fact_fr {p r : Nat} {T : tk_T} (h : tk_fr t n p T) : tk_fr t n p (tk_fact t n r T).2.2 ∧ kh_in (tk_fact t n r T).2.1 0 255 := by
  unfold tk_fact
  split
  · exact ⟨tk_fs_fr _ _ _ _ h.nx, tk_fs_in _ _ _ _ ⟨by decide, by decide⟩⟩
  · exact ⟨h, (show kh_in 0 0 255 from ⟨by decide, by decide⟩)⟩
theorem tk_kind_in {T : tk_T} (h : 0 ≤ tk_kind t T) : kh_in (tk_kind t T) 0 5 ∧ tk_o T = 1 := by
  unfold tk_kind at h ⊢
  by_cases h5 : tk_w t T 5 = true
  · rw [if_pos h5]; exact ⟨⟨by decide, by decide⟩, tk_w1 h5⟩
  rw [if_neg h5] at h ⊢
  by_cases h0 : tk_w t T 0 = true
  · rw [if_pos h0]; exact ⟨⟨by decide, by decide⟩, tk_w1 h0⟩
  rw [if_neg h0] at h ⊢
  by_cases h1 : tk_w t T 1 = true
  · rw [if_pos h1]; exact ⟨⟨by decide, by decide⟩, tk_w1 h1⟩
  rw [if_neg h1] at h ⊢
  by_cases h2 : tk_w t T 2 = true
  · rw [if_pos h2]; exact ⟨⟨by decide, by decide⟩, tk_w1 h2⟩
  rw [if_neg h2] at h ⊢
  by_cases h3 : tk_w t T 3 = true
  · rw [if_pos h3]; exact ⟨⟨by decide, by decide⟩, tk_w1 h3⟩
  rw [if_neg h3] at h ⊢
  by_cases h4 : tk_w t T 4 = true
  · rw [if_pos h4]; exact ⟨⟨by decide, by decide⟩, tk_w1 h4⟩
  rw [if_neg h4] at h ⊢
  exact absurd h (by decide)
end TK
/-! texts -/
section KT8
variable {d r : Nat} {μ : kq_M} {Q : Option kq_V → kq_M → Prop}
theorem kt_jS_coder (hr : r < 12) (k : Q (some (kq_I 0)) μ) : kq_Call d km_jS_coder [kq_R r 43] μ Q := by
  refine ke_jS_coder ?_
  refine ks_jS_coder_0 <| ks_jS_coder_3 (fun h3 => ?_) (fun h3 => ?_)
  · exact absurd h3 (by decide)
  · refine ks_jS_coder_6 <| ks_jS_coder_7 (by first | rfl | assumption) <| ks_jS_coder_10 <| ks_jS_coder_14 (by rfl) ?_
    exact k
theorem kq_sl_shr : ∀ r, r < 12 → nI (kq_sl.getD r 0) >>> ((0 : Int32) &&& 31) = nI (kq_sl.getD r 0) := by decide
theorem kt_jS_length (hr : r < 12) (k : Q (some (kq_I (nI (kq_sl.getD r 0)))) μ) : kq_Call (d + 1) km_jS_length [kq_R r 43] μ Q := by
  refine ke_jS_length ?_
  refine ks_jS_length_0 <| ks_jS_length_1 (by first | rfl | assumption) <| ks_jS_length_4 (by first | rfl | assumption) <| ks_jS_length_5 <| ks_jS_length_6 (by first | rfl | assumption) (Nat.le_of_ble_eq_true rfl) ?_
  refine kt_jS_coder hr ?_
  refine ks_jS_length_9 <| ks_jS_length_10 ?_
  rw [kq_sl_shr r hr]
  exact k
theorem kt_jS_isLatin1 (hr : r < 12) (k : Q (some (kq_I 1)) μ) : kq_Call d km_jS_isLatin1 [kq_R r 43] μ Q := by
  refine ke_jS_isLatin1 ?_
  refine ks_jS_isLatin1_0 <| ks_jS_isLatin1_3 (fun h3 => ?_) (fun h3 => ?_)
  · exact absurd h3 (by decide)
  · refine ks_jS_isLatin1_6 <| ks_jS_isLatin1_7 (by first | rfl | assumption) <| ks_jS_isLatin1_10 (fun h10 => ?_) (fun h10 => ?_)
    · exact absurd rfl h10
    · refine ks_jS_isLatin1_13 <| ks_jS_isLatin1_14 <| ks_jS_isLatin1_18 (by first | exact kq_b01' _ | exact Or.inl rfl | exact Or.inr rfl | assumption) ?_
      exact k
theorem kt_jP_checkIndex {i l : Nat} (h : i < l) (hl : l < 2 ^ 31) (k : Q (some (kq_I (nI i))) μ) : kq_Call d km_jP_checkIndex [kq_I (nI i), kq_I (nI l), kq_R 0 45] μ Q := by
  refine ke_jP_checkIndex ?_
  refine ks_jP_checkIndex_0 <| ks_jP_checkIndex_1 (fun h1 => ?_) (fun h1 => ?_)
  · exact absurd h1 (nI_pos (by omega))
  · refine ks_jP_checkIndex_4 <| ks_jP_checkIndex_5 <| ks_jP_checkIndex_6 (fun h6 => ?_) (fun h6 => ?_)
    · refine ks_jP_checkIndex_16 <| ks_jP_checkIndex_17 ?_
      exact k
    · exact absurd (nI_lt h hl) h6
theorem kt_jS_checkIndex {i l : Nat} (h : i < l) (hl : l < 2 ^ 31) (k : Q none μ) : kq_Call (d + 1) km_jS_checkIndex [kq_I (nI i), kq_I (nI l)] μ Q := by
  refine ke_jS_checkIndex ?_
  refine ks_jS_checkIndex_0 <| ks_jS_checkIndex_1 <| ks_jS_checkIndex_2 <| ks_jS_checkIndex_5 (Nat.le_of_ble_eq_true rfl) ?_
  refine kt_jP_checkIndex h hl ?_
  refine ks_jS_checkIndex_8 rfl <| ks_jS_checkIndex_9 ?_
  exact k
theorem kq_sb_c : ∀ r, r < 12 → ∀ i, i < kq_sl.getD r 0 → ((((kq_sb.getD r []).getD i 0) &&& 255).toUInt32 % 65536).toInt32 = (kq_sb.getD r []).getD i 0 := by decide
theorem kq_sb_n : ∀ r, r < 12 → ∀ i, i < kq_sl.getD r 0 → narrow .char (.int ((kq_sb.getD r []).getD i 0)) = .int ((kq_sb.getD r []).getD i 0) := by decide
theorem kq_sl_31 : ∀ r, r < 12 → kq_sl.getD r 0 < 2 ^ 31 := by decide
theorem kt_jL_charAt {i : Nat} (hr : r < 12) (hi : i < kq_sl.getD r 0) (k : Q (some (kq_I ((kq_sb.getD r []).getD i 0))) μ) : kq_Call (d + 2) km_jL_charAt [kq_R r 44, kq_I (nI i)] μ Q := by
  refine ke_jL_charAt ?_
  refine ks_jL_charAt_0 <| ks_jL_charAt_1 <| ks_jL_charAt_2 (by first | rfl | assumption) <| ks_jL_charAt_3 (Nat.le_of_ble_eq_true rfl) ?_
  refine kt_jS_checkIndex hi (kq_sl_31 r hr) ?_
  refine ks_jL_charAt_6 <| ks_jL_charAt_7 <| ks_jL_charAt_8 i hr rfl hi <| ks_jL_charAt_9 <| ks_jL_charAt_12 <| ks_jL_charAt_13 ?_
  rw [kq_sb_c r hr i hi]
  refine ks_jL_charAt_14 (kq_sb_n r hr i hi) ?_
  exact k
theorem kt_jS_charAt {i : Nat} (hr : r < 12) (hi : i < kq_sl.getD r 0) (k : Q (some (kq_I ((kq_sb.getD r []).getD i 0))) μ) : kq_Call (d + 3) km_jS_charAt [kq_R r 43, kq_I (nI i)] μ Q := by
  refine ke_jS_charAt ?_
  refine ks_jS_charAt_0 <| ks_jS_charAt_1 (by first | rfl | assumption) (Nat.le_of_ble_eq_true rfl) ?_
  refine kt_jS_isLatin1 hr ?_
  refine ks_jS_charAt_4 (fun h4 => ?_) (fun h4 => ?_)
  · exact absurd h4 (by decide)
  · refine ks_jS_charAt_7 <| ks_jS_charAt_8 (by first | rfl | assumption) <| ks_jS_charAt_11 <| ks_jS_charAt_12 (Nat.le_of_ble_eq_true rfl) ?_
    refine kt_jL_charAt hr hi ?_
    refine ks_jS_charAt_15 (kq_sb_n r hr i hi) ?_
    exact k
end KT8
