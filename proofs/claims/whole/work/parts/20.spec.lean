/-! THE MATHEMATICS of an inquest: what both sides are held against. A hall: truth, heat, water, what it boils at, tea; minute, count; kinds, knows, says, sure -/
abbrev kh_S : Type := Int32 × Int32 × Int32 × Int32 × Int32 × Nat × Nat × (Nat → Int32) × (Nat → Int32) × (Nat → Int32) × (Nat → Int32)
def kh_T (v : kh_S) : Int32 := v.1
def kh_H (v : kh_S) : Int32 := v.2.1
def kh_W (v : kh_S) : Int32 := v.2.2.1
def kh_B (v : kh_S) : Int32 := v.2.2.2.1
def kh_E (v : kh_S) : Int32 := v.2.2.2.2.1
def kh_m (v : kh_S) : Nat := v.2.2.2.2.2.1
def kh_c (v : kh_S) : Nat := v.2.2.2.2.2.2.1
def kh_k (v : kh_S) : Nat → Int32 := v.2.2.2.2.2.2.2.1
def kh_n (v : kh_S) : Nat → Int32 := v.2.2.2.2.2.2.2.2.1
def kh_s (v : kh_S) : Nat → Int32 := v.2.2.2.2.2.2.2.2.2.1
def kh_u (v : kh_S) : Nat → Int32 := v.2.2.2.2.2.2.2.2.2.2
def kh_mk (T H W B E : Int32) (m c : Nat) (k n s u : Nat → Int32) : kh_S := (T, H, W, B, E, m, c, k, n, s, u)
def kh_up (f : Nat → Int32) (w : Nat) (x : Int32) : Nat → Int32 := fun j => if j = w then x else f j
def kh_bit (s : Int32) (f : Nat) : Bool := decide ((s >>> (nI f &&& 31)) &&& 1 = 1)
def kh_lie (v : kh_S) (w : Nat) : Int32 := kh_n v w &&& (kh_s v w ^^^ kh_T v)
def kh_luck (v : kh_S) (w : Nat) : Int32 := 255 &&& (kh_n v w ^^^ (-1)) &&& ((kh_s v w ^^^ kh_T v) ^^^ (-1))
def kh_wrong (v : kh_S) (w : Nat) : Int32 := 255 &&& (kh_n v w ^^^ (-1)) &&& (kh_s v w ^^^ kh_T v)
def kh_plain (v : kh_S) (w f : Nat) : Int32 := if kh_bit (kh_lie v w) f then 1 + kh_u v w else if kh_bit (kh_luck v w) f then kh_u v w / 2 else 0
def kh_plumb (v : kh_S) (w f : Nat) : Int32 := if f ≤ 3 ∧ kh_bit (kh_lie v w) f = true then kh_plain v w f + 5 else kh_plain v w f
def kh_isP (k : Int32) : Bool := decide (k = 1 ∨ k = 4)
/-- another one, below n, that is a plumber or under it, lies in f -/
def kh_besN (v : kh_S) (w f : Nat) : Nat → Bool
  | 0 => false
  | n + 1 => kh_besN v w f n || (decide (n ≠ w) && kh_bit (kh_lie v n) f && kh_isP (kh_k v n))
def kh_bes (v : kh_S) (w f : Nat) : Bool := kh_besN v w f (kh_c v)
def kh_wife (v : kh_S) (w f : Nat) : Int32 := if kh_bes v w f then kh_plain v w f + 1 else kh_plain v w f
def kh_heat (v : kh_S) (w f : Nat) : Int32 :=
  if kh_k v w = 1 then kh_plumb v w f
  else if kh_k v w = 2 then kh_wife v w f
  else if kh_k v w = 3 then -(kh_u v w)
  else if kh_k v w = 4 then kh_plumb v w f / 2 + (if kh_bit (kh_wrong v w) f then 1 else 0)
  else if kh_k v w = 5 then (if 15 < kh_H v then 0 else kh_wife v w f)
  else kh_plain v w f
def kh_doubt (k : Int32) : Int32 := if k = 1 then 2 else if k = 3 ∨ k = 4 then 0 else 1
def kh_clamp (x lo hi : Int32) : Int32 := if x < lo then lo else if hi < x then hi else x
def kh_h1 (v : kh_S) (w f : Nat) : Int32 := kh_clamp (kh_H v + kh_heat v w f) 0 99
def kh_boil (v : kh_S) (w f : Nat) : Bool := decide (kh_B v ≤ kh_h1 v w f ∧ 4 ≤ kh_W v)
def kh_learn (v : kh_S) (w f : Nat) : Bool := (kh_boil v w f && decide (kh_k v w = 2 ∨ kh_k v w = 5)) || (decide (kh_k v w = 4) && kh_bit (kh_luck v w) f)
/-- an answer of w to the fact f -/
def kh_ans (v : kh_S) (w f : Nat) : kh_S :=
  kh_mk (kh_T v) (if kh_boil v w f then kh_h1 v w f / 2 else kh_h1 v w f) (if kh_boil v w f then kh_W v - 4 else kh_W v) (kh_B v) (if kh_boil v w f then kh_clamp (kh_E v + 2) 0 9999 else kh_E v) (kh_m v) (kh_c v) (kh_k v)
    (if kh_learn v w f then kh_up (kh_n v) w (kh_n v w ||| ((1 : Int32) <<< (nI f &&& 31))) else kh_n v) (kh_s v)
    (if kh_boil v w f then kh_up (kh_u v) w (kh_clamp (kh_u v w - kh_doubt (kh_k v w)) 0 9) else kh_u v)
def kh_who (v : kh_S) : Nat := kh_m v % kh_c v
def kh_ask (v : kh_S) : Nat := kh_m v / kh_c v % 8
def kh_setM (v : kh_S) (m : Nat) : kh_S := kh_mk (kh_T v) (kh_H v) (kh_W v) (kh_B v) (kh_E v) m (kh_c v) (kh_k v) (kh_n v) (kh_s v) (kh_u v)
def kh_setH (v : kh_S) (x : Int32) : kh_S := kh_mk (kh_T v) x (kh_W v) (kh_B v) (kh_E v) (kh_m v) (kh_c v) (kh_k v) (kh_n v) (kh_s v) (kh_u v)
/-- a minute goes -/
def kh_min (v : kh_S) : kh_S := if kh_c v = 0 then kh_setM (kh_setH v (kh_clamp (kh_H v - 1) 0 99)) (kh_m v + 1) else kh_setM (kh_ans v (kh_who v) (kh_ask v)) (kh_m v + 1)
def kh_minB (v : kh_S) : Bool := if kh_c v = 0 then false else kh_boil v (kh_who v) (kh_ask v)
def kh_pass : Nat → kh_S → kh_S
  | 0, v => v
  | n + 1, v => kh_pass n (kh_min v)
/-! what a hall may be -/
def kh_in (x lo hi : Int32) : Prop := lo ≤ x ∧ x ≤ hi
def kh_ok (v : kh_S) : Prop := kh_c v ≤ 8 ∧ kh_in (kh_T v) 0 255 ∧ kh_in (kh_H v) 0 99 ∧ kh_in (kh_W v) 0 99 ∧ kh_in (kh_B v) 1 99 ∧ kh_in (kh_E v) 0 9999 ∧ kh_m v < 1000000 ∧
  (∀ w, w < kh_c v → kh_in (kh_k v w) 0 5) ∧ (∀ w, w < kh_c v → kh_in (kh_n v w) 0 255) ∧ (∀ w, w < kh_c v → kh_in (kh_s v w) 0 255) ∧ (∀ w, w < kh_c v → kh_in (kh_u v w) 0 9)
/-! how the two sides hold a hall -/
/-- the class: the hall of region r -/
def kc_at (μ : kq_M) (r : Nat) (v : kh_S) : Prop :=
  kq_rI μ r 1 0 = kh_T v ∧ kq_rI μ r 1 1 = kh_H v ∧ kq_rI μ r 1 2 = kh_W v ∧ kq_rI μ r 1 3 = kh_B v ∧ kq_rI μ r 1 4 = kh_E v ∧ kq_rI μ r 1 5 = nI (kh_m v) ∧ kq_rI μ r 1 6 = nI (kh_c v) ∧
  (∀ w, w < kh_c v → kq_rI μ r 2 w = kh_k v w) ∧ (∀ w, w < kh_c v → kq_rI μ r 3 w = kh_n v w) ∧ (∀ w, w < kh_c v → kq_rI μ r 4 w = kh_s v w) ∧ (∀ w, w < kh_c v → kq_rI μ r 5 w = kh_u v w)
/-- the reference: the row of place i -/
def kr_at (μ : kq_M) (i : Nat) (v : kh_S) : Prop :=
  kq_rI μ 0 i 0 = nI (kh_m v) ∧ kq_rI μ 0 i 1 = kh_H v ∧ kq_rI μ 0 i 2 = kh_W v ∧ kq_rI μ 0 i 3 = kh_E v ∧ kq_rI μ 0 i 4 = kh_B v ∧ kq_rI μ 0 i 5 = kh_T v ∧ kq_rI μ 0 i 6 = nI (kh_c v) ∧
  (∀ w, w < kh_c v → kq_rI μ 0 i (7 + 4 * w) = kh_k v w) ∧ (∀ w, w < kh_c v → kq_rI μ 0 i (7 + 4 * w + 1) = kh_n v w) ∧ (∀ w, w < kh_c v → kq_rI μ 0 i (7 + 4 * w + 2) = kh_s v w) ∧ (∀ w, w < kh_c v → kq_rI μ 0 i (7 + 4 * w + 3) = kh_u v w)
/-! what stays: all but the cells that P names -/
def kq_fr (P : Nat → Nat → Prop) (μ μ' : kq_M) : Prop := (∀ r i k, ¬ P r i → kq_rI μ' r i k = kq_rI μ r i k) ∧ (∀ r i k, ¬ P r i → kq_rL μ' r i k = kq_rL μ r i k) ∧ kq_sc μ' = kq_sc μ
theorem kq_fr.rf {P : Nat → Nat → Prop} {μ : kq_M} : kq_fr P μ μ := ⟨fun _ _ _ _ => rfl, fun _ _ _ _ => rfl, rfl⟩
theorem kq_fr.tr {P : Nat → Nat → Prop} {μ μ' μ'' : kq_M} (h : kq_fr P μ μ') (h' : kq_fr P μ' μ'') : kq_fr P μ μ'' := ⟨fun r i k z => (h'.1 r i k z).trans (h.1 r i k z), fun r i k z => (h'.2.1 r i k z).trans (h.2.1 r i k z), h'.2.2.trans h.2.2⟩
theorem kq_fr.mono {P P' : Nat → Nat → Prop} {μ μ' : kq_M} (h : kq_fr P μ μ') (hp : ∀ r i, P r i → P' r i) : kq_fr P' μ μ' := ⟨fun r i k z => h.1 r i k (fun q => z (hp r i q)), fun r i k z => h.2.1 r i k (fun q => z (hp r i q)), h.2.2⟩
theorem kq_fr.wI {P : Nat → Nat → Prop} {μ μ' : kq_M} {r i k : Nat} {v : Int32} (h : kq_fr P μ μ') (hp : P r i) : kq_fr P μ (kq_wI μ' r i k v) := by
  refine ⟨fun a b c z => ?_, h.2.1, h.2.2⟩
  rw [kq_rI_wI, if_neg (fun q => z (by rw [q.1, q.2.1]; exact hp))]
  exact h.1 a b c z
theorem kq_fr.wL {P : Nat → Nat → Prop} {μ μ' : kq_M} {r i k : Nat} {v : Int64} (h : kq_fr P μ μ') (hp : P r i) : kq_fr P μ (kq_wL μ' r i k v) := by
  refine ⟨h.1, fun a b c z => ?_, h.2.2⟩
  rw [kq_rL_wL, if_neg (fun q => z (by rw [q.1, q.2.1]; exact hp))]
  exact h.2.1 a b c z
