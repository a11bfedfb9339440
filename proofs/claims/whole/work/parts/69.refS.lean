/-! THE REFERENCE's TEXT: words by their codes -/
def dc (g : Nat → Nat) : Nat → Nat
  | 0 => 0
  | m + 1 => 27 * dc g m + g m
theorem dc_inj {g h : Nat → Nat} : ∀ (m m' : Nat), (∀ i, i < m → 1 ≤ g i ∧ g i ≤ 26) → (∀ i, i < m' → 1 ≤ h i ∧ h i ≤ 26) → dc g m = dc h m' → m = m' ∧ ∀ i, i < m → g i = h i
  | 0, 0, _, _, _ => ⟨rfl, fun i hi => absurd hi (by omega)⟩
  | 0, m' + 1, _, hh, e => by
    have e' : 0 = 27 * dc h m' + h m' := e
    have := hh m' (by omega)
    omega
  | m + 1, 0, hg, _, e => by
    have e' : 27 * dc g m + g m = 0 := e
    have := hg m (by omega)
    omega
  | m + 1, m' + 1, hg, hh, e => by
    have e' : 27 * dc g m + g m = 27 * dc h m' + h m' := e
    have h1 := hg m (by omega)
    have h2 := hh m' (by omega)
    have e2 : dc g m = dc h m' := by omega
    have e3 : g m = h m' := by omega
    obtain ⟨em, ei⟩ := dc_inj m m' (fun i hi => hg i (by omega)) (fun i hi => hh i (by omega)) e2
    subst em
    refine ⟨rfl, fun i hi => ?_⟩
    by_cases hi2 : i = m
    · rw [hi2]; exact e3
    · exact ei i (by omega)
theorem dc_lt {g : Nat → Nat} : ∀ (m : Nat), (∀ i, i < m → g i ≤ 26) → dc g m < 27 ^ m
  | 0, _ => by show 0 < 1; decide
  | m + 1, h => by
    show 27 * dc g m + g m < 27 ^ (m + 1)
    have := dc_lt m (fun i hi => h i (by omega))
    have h2 := h m (by omega)
    rw [Nat.pow_succ]
    omega
theorem dc_cg {g h : Nat → Nat} : ∀ (m : Nat), (∀ i, i < m → g i = h i) → dc g m = dc h m
  | 0, _ => rfl
  | m + 1, e => by
    show 27 * dc g m + g m = 27 * dc h m + h m
    rw [dc_cg m (fun i hi => e i (by omega)), e m (by omega)]
def kd_t (t : Nat → Int32) (a i : Nat) : Nat := kh_nat (t (a + i)) - 96
def kd_s (r i : Nat) : Nat := kh_nat ((kq_sb.getD r []).getD i 0) - 96
def kd_c (r : Nat) : Nat := dc (kd_s r) (kq_sl.getD r 0)
theorem kd_sr : ∀ r, r < 12 → ∀ i, i < kq_sl.getD r 0 → 1 ≤ kd_s r i ∧ kd_s r i ≤ 26 ∧ nI (kd_s r i + 96) = (kq_sb.getD r []).getD i 0 := by decide
theorem kd_le : ∀ r, r < 12 → kq_sl.getD r 0 ≤ 12 := by decide
theorem kd_cv : ∀ r, r < 12 → kd_c r < 2 ^ 63 := by decide
theorem tk_cd_n {t : Nat → Int32} {a : Nat} : ∀ m, m ≤ 12 → (∀ i, i < m → 97 ≤ t (a + i) ∧ t (a + i) ≤ 122) → tk_cd t a m = Int64.ofNat (dc (kd_t t a) m)
  | 0, _, _ => rfl
  | m + 1, hm, h => by
    have e1 : tk_cd t a (m + 1) = 27 * tk_cd t a m + (t (a + m)).toInt64 - 96 := if_pos (by omega)
    rw [e1, tk_cd_n m (by omega) (fun i hi => h i (by omega))]
    have hb := h m (by omega)
    rw [ki_le, ki_le, show (97 : Int32).toInt = 97 from by decide, show (122 : Int32).toInt = 122 from by decide] at hb
    obtain ⟨y, hy, ey⟩ := nI_of (x := t (a + m)) (by rw [ki_lt, ki_0]; omega)
    rw [ey, nI_toInt hy] at hb
    show _ = Int64.ofNat (27 * dc (kd_t t a) m + kd_t t a m)
    unfold kd_t
    rw [ey, kh_nat_nI hy]
    have e2 : (nI y).toInt64 = Int64.ofNat (y - 96) + 96 := by
      rw [show (96 : Int64) = Int64.ofNat 96 from rfl, ← Int64.ofNat_add, show y - 96 + 96 = y by omega]
      exact Int64.toInt_inj.mp (by rw [Int32.toInt_toInt64, nI_toInt hy, Int64.toInt_ofNat_of_lt (by omega)])
    rw [e2, Int64.ofNat_add, Int64.ofNat_mul, ← Int64.add_assoc, Int64.add_sub_cancel]
    rfl
section KM19
variable {d n p : Nat} {t : Nat → Int32} {T : tk_T} {μ : kq_M} {Q : Option kq_V → kq_M → Prop}
theorem tk_fr.let1 (h : tk_fr t n p T) (ho : tk_o T = 1) : ∀ i, i < tk_e T - tk_a T → 97 ≤ t (tk_a T + i) ∧ t (tk_a T + i) ≤ 122 := by
  obtain ⟨p', h1, h2, rfl⟩ := h
  have s := tk_sk_le (t := t) (n - p') p'
  unfold tk_at at ho ⊢
  generalize tk_sk t (n - p') p' = z at ho s ⊢
  unfold tk_mk at ho ⊢
  by_cases g1 : n ≤ z
  · rw [if_pos g1] at ho
    exact absurd ho (by show ¬ (0 = 1); decide)
  · rw [if_neg g1] at ho ⊢
    by_cases g2 : 97 ≤ t z ∧ t z ≤ 122
    · rw [if_pos g2]
      intro i hi
      have hi' : i < tk_run t 97 122 (n - z) z - z := hi
      exact tk_run_in (n - z) z (z + i) (by omega) (by omega)
    · rw [if_neg g2] at ho
      by_cases g3 : 48 ≤ t z ∧ t z ≤ 57
      · rw [if_pos g3] at ho
        exact absurd ho (by show ¬ (2 = 1); decide)
      · rw [if_neg g3] at ho
        by_cases g4 : t z = 59
        · rw [if_pos g4] at ho
          exact absurd ho (by show ¬ (3 = 1); decide)
        · rw [if_neg g4] at ho
          exact absurd ho (by show ¬ (4 = 1); decide)
theorem tk_w_cd {r : Nat} (hr : r < 12) (hf : tk_fr t n p T) (ho : tk_o T = 1) : tk_w t T r = decide (tk_cd t (tk_a T) (tk_e T - tk_a T) = Int64.ofNat (kd_c r)) := by
  have ae := hf.ae
  have hl := hf.let1 ho
  have hlen := kd_le r hr
  have hsr := kd_sr r hr
  unfold tk_w
  rw [decide_eq_decide]
  have dg : ∀ i, i < tk_e T - tk_a T → 1 ≤ kd_t t (tk_a T) i ∧ kd_t t (tk_a T) i ≤ 26 ∧ nI (kd_t t (tk_a T) i + 96) = t (tk_a T + i) := fun i hi => by
    have hb := hl i hi
    rw [ki_le, ki_le, show (97 : Int32).toInt = 97 from by decide, show (122 : Int32).toInt = 122 from by decide] at hb
    obtain ⟨y, hy, ey⟩ := nI_of (x := t (tk_a T + i)) (by rw [ki_lt, ki_0]; omega)
    rw [ey, nI_toInt hy] at hb
    unfold kd_t
    rw [ey, kh_nat_nI hy]
    exact ⟨by omega, by omega, by rw [show y - 96 + 96 = y by omega]⟩
  constructor
  · intro h
    rw [h.2.1, tk_cd_n _ hlen (fun i hi => hl i (by omega))]
    congr 1
    refine dc_cg _ (fun i hi => ?_)
    unfold kd_t kd_s
    rw [h.2.2 i hi]
  · intro h
    by_cases h12 : tk_e T - tk_a T ≤ 12
    · rw [tk_cd_n _ h12 hl] at h
      have l1 := dc_lt (g := kd_t t (tk_a T)) (tk_e T - tk_a T) (fun i hi => (dg i hi).2.1)
      have l2 : 27 ^ (tk_e T - tk_a T) ≤ 27 ^ 12 := Nat.pow_le_pow_right (by decide) h12
      have l3 : (27 : Nat) ^ 12 < 2 ^ 63 := by decide
      have h' := congrArg Int64.toInt h
      rw [Int64.toInt_ofNat_of_lt (by omega), Int64.toInt_ofNat_of_lt (kd_cv r hr)] at h'
      obtain ⟨e1, e2⟩ := dc_inj (h := kd_s r) _ (kq_sl.getD r 0) (fun i hi => ⟨(dg i hi).1, (dg i hi).2.1⟩) (fun i hi => ⟨(hsr i hi).1, (hsr i hi).2.1⟩) (by have : ((dc (kd_t t (tk_a T)) (tk_e T - tk_a T) : Nat) : Int) = ((kd_c r : Nat) : Int) := h'; exact Int.ofNat.inj this)
      refine ⟨ho, e1, fun i hi => ?_⟩
      rw [← (dg i (by omega)).2.2, ← (hsr i hi).2.2, e2 i (by omega)]
    · obtain ⟨m, hm⟩ : ∃ m, tk_e T - tk_a T = m + 1 := ⟨tk_e T - tk_a T - 1, by omega⟩
      rw [hm, show tk_cd t (tk_a T) (m + 1) = -1 from if_neg (by omega)] at h
      have h' := congrArg Int64.toInt h
      rw [Int64.toInt_ofNat_of_lt (kd_cv r hr)] at h'
      have : (-1 : Int64).toInt = -1 := by decide
      omega
end KM19
