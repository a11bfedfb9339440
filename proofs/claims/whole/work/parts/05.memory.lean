/-! THE RULES of the memory and of calls -/
theorem kq_C.S {M : kq_D} {g : kq_G} {S : Nat × (Nat → Int32)} {p : Program} {s : State} {m : MethodId} {args : Array Value} {meth : Method} {c : Code} {μ : kq_M} {H : Heap} {locs : List Loc} (hC : kq_C M g S p s m args meth c) (hH : kq_Hd g μ H) (hz : s.heap.size ≤ H.size) (hL : ∀ q ∈ locs, kq_A g q.base) : va_S (kq_A g) s.heap H locs :=
  ⟨hz, fun q _ h2 => by
    have h3 : q < (kq_gH g).size := Nat.not_le.mp h2
    rw [hH.2.2 q h3, hC.2.2.2.2.2.2.2.2.2.2 q h3], hL⟩
/-- a fact of the law's heap is one of the method's first heap -/
theorem kq_C.old {M : kq_D} {g : kq_G} {S : Nat × (Nat → Int32)} {p : Program} {s : State} {m : MethodId} {args : Array Value} {meth : Method} {c : Code} (hC : kq_C M g S p s m args meth c) : ∀ a : Nat, a < (kq_gH g).size → ¬ kq_A g a → s.heap[a]? = (kq_gH g)[a]? := fun a h _ => hC.2.2.2.2.2.2.2.2.2.2 a h
theorem kq_C.w {M : kq_D} {g : kq_G} {S : Nat × (Nat → Int32)} {p : Program} {s : State} {m : MethodId} {args : Array Value} {meth : Method} {c : Code} (hC : kq_C M g S p s m args meth c) {w : Cond} (hw : w ∈ kq_tbl) : w.before args s = true := hC.2.2.2.2.2.2.1 _ hw
theorem kq_C.D {M : kq_D} {g : kq_G} {S : Nat × (Nat → Int32)} {p : Program} {s : State} {m : MethodId} {args : Array Value} {meth : Method} {c : Code} (hC : kq_C M g S p s m args meth c) : kq_Wd g S s := hC.2.2.2.2.2.2.2.1
theorem kq_Wd.K {g : kq_G} {S : Nat × (Nat → Int32)} {s : State} (h : kq_Wd g S s) {c : Nat} (hc : c < 5) : u_Kn s (kq_cn c) (kq_FT c) (kq_nF c) ((kq_gD g).1 c) ((kq_gD g).2 c) := h.1.1 c _ (kq_cg c hc)
theorem kq_Wd.aI {g : kq_G} {S : Nat × (Nat → Int32)} {s : State} (h : kq_Wd g S s) : ArrOfT s (kq_gA g 0) .int := (h.1.2 0 _ rfl).1
theorem kq_Wd.aL {g : kq_G} {S : Nat × (Nat → Int32)} {s : State} (h : kq_Wd g S s) : ArrOfT s (kq_gA g 1) .long := (h.1.2 1 _ rfl).1
theorem kq_Wd.aS {g : kq_G} {S : Nat × (Nat → Int32)} {s : State} (h : kq_Wd g S s) : ArrOfT s (kq_gA g 2) (.object "KettleInquest$Sheet") := (h.1.2 2 _ rfl).1
theorem kq_at0 {g : kq_G} {μ : kq_M} {r i : Nat} {H : Heap} (h : kq_at g μ r i H) (hi : kq_ck i = 0) : t_OB (kq_gd g r i) ((kq_gD g).1 (kq_ci i)) (kq_nF (kq_ci i)) ((kq_gD g).2 (kq_ci i)) H (kq_val g μ r i) := by
  unfold kq_at at h
  rw [hi] at h
  exact h
theorem kq_at1 {g : kq_G} {μ : kq_M} {r i : Nat} {H : Heap} (h : kq_at g μ r i H) (hi : kq_ck i = 1) : H[kq_gd g r i]? = some (arrV (kq_gA g 0) (kq_len i) (fun j => .int (kq_rI μ r i j))) := by
  unfold kq_at at h
  rw [hi] at h
  exact h
theorem kq_at2 {g : kq_G} {μ : kq_M} {r i : Nat} {H : Heap} (h : kq_at g μ r i H) (hi : kq_ck i = 2) : H[kq_gd g r i]? = some (arrV (kq_gA g 1) (kq_len i) (fun j => .long (kq_rL μ r i j))) := by
  unfold kq_at at h
  rw [hi] at h
  exact h
theorem kq_at3 {g : kq_G} {μ : kq_M} {r i : Nat} {H : Heap} (h : kq_at g μ r i H) (hi : kq_ck i = 3) : H[kq_gd g r i]? = some (arrV (kq_gA g 2) (kq_len i) (fun j => .ref (kq_gd g j 8))) := by
  unfold kq_at at h
  rw [hi] at h
  exact h
/-- one cell changes, and the memory there -/
theorem kq_Hd.put {g : kq_G} {μ μ' : kq_M} {r i : Nat} {H H' : Heap} (hA : kq_Ap g) (hH : kq_Hd g μ H) (hok : kq_ok i r = true) (hz : H'.size = H.size) (ho : ∀ q : Nat, q ≠ kq_gd g r i → H'[q]? = H[q]?) (hat : kq_at g μ' r i H') (hI : ∀ a b k, ¬ (a = r ∧ b = i) → kq_rI μ' a b k = kq_rI μ a b k) (hL : ∀ a b k, ¬ (a = r ∧ b = i) → kq_rL μ' a b k = kq_rL μ a b k) : kq_Hd g μ' H' := by
  refine ⟨fun a b hab => ?_, by rw [hz]; exact hH.2.1, fun q hq => ?_⟩
  · by_cases e : a = r ∧ b = i
    · obtain ⟨rfl, rfl⟩ := e
      exact hat
    · exact (hH.1 a b hab).keep (ho _ (fun q => e (hA.1 a b r i hab hok q))) (fun k => hI a b k e) (fun k => hL a b k e)
  · rw [ho q (fun e => ?_)]
    · exact hH.2.2 q hq
    · have h1 := hA.2 r i hok
      rw [← e] at h1
      exact absurd hq (Nat.not_lt.mpr h1)
section KM
variable {M : kq_D} {d pc : Nat} {ls : List (Option kq_V)} {st : List kq_V} {μ : kq_M} {Q : Option kq_V → kq_M → Prop}
theorem kq_getf {idx r : Nat} (i k : Nat) (hd : decode M.2.1 pc = .ok (.getfield idx, 3)) (hw : Cond.fieldLink M.1.cls idx (kq_FT (kq_ci i) k).1 (kq_FT (kq_ci i) k).2.1 (kq_FT (kq_ci i) k).2.2.1 ∈ kq_tbl) (hi : kq_ck i = 0 ∧ kq_ci i < 5 ∧ k < kq_nF (kq_ci i) ∧ i ≠ 45) (h5 : (kq_tg r i k).2 ≠ 45) (hok : kq_ok i r = true) (kk : kq_S M d (pc + 3) ls (kq_av μ r i k :: st) μ Q) : kq_S M d pc ls (kq_R r i :: st) μ Q := by
  intro R kc ks l g p e s m args below meth c H locs lc hR hC hH hz hL hV
  obtain ⟨h0, h1, h2, h3⟩ := hi
  have k1 := kk R kc ks l g p e s m args below meth c H locs lc hR hC hH hz hL hV
  rw [List.map_cons, kq_tr_av g μ r i k h5] at k1
  rw [List.map_cons, kq_trR g r h3]
  obtain ⟨cell, q1, q2, q3, q4⟩ := kq_at0 (hH.1 r i hok) h0
  obtain ⟨hS, hfc, kC, hkC, hkind⟩ := hC.D.K h1
  obtain ⟨cf, kf, fi, f, hfi, hsl⟩ := hS k h2
  refine W.getf hC.1 hC.2.1 hC.2.2.2.2.2.1 (hC.w hw) hfi (u_facts hfc hkC (u_lays (ws := kq_tbl) (fun w h => hC.w h) (kq_ci_in _ h1) h2) hfi).1 q1 (by rw [q3]; exact fun h => by cases h) (v := kq_val g μ r i k) ?_ rfl rfl hd k1
  rw [hsl, q4 k h2]
theorem kq_putI {idx r : Nat} {v : Int32} {ty : FieldType} (i k : Nat) (hd : decode M.2.1 pc = .ok (.putfield idx, 3)) (hw : Cond.fieldLink M.1.cls idx (kq_FT (kq_ci i) k).1 (kq_FT (kq_ci i) k).2.1 (kq_FT (kq_ci i) k).2.2.1 ∈ kq_tbl) (hi : kq_ck i = 0 ∧ kq_ci i < 5 ∧ k < kq_nF (kq_ci i) ∧ i ≠ 45 ∧ kq_fk i k = 0 ∧ (kq_FT (kq_ci i) k).2.2.2 = false ∧ kq_tt (kq_ci i) k = ty) (hn : narrow ty (.int v) = .int v ∧ fits ty (.int v) = true) (hok : kq_ok i r = true) (kk : kq_S M d (pc + 3) ls st (kq_wI μ r i k v) Q) : kq_S M d pc ls (kq_I v :: kq_R r i :: st) μ Q := by
  intro R kc ks l g p e s m args below meth c H locs lc hR hC hH hz hL hV
  obtain ⟨h0, h1, h2, h3, h4, h6, h7⟩ := hi
  rw [List.map_cons, List.map_cons, kq_trR g r h3]
  have hts : ∀ w ∈ kq_tbl, w.before args s = true := fun w h => hC.w h
  have hin := kq_ci_in _ h1
  have hKn := hC.D.K h1
  have hap : ∀ x y, x < kq_nF (kq_ci i) → y < kq_nF (kq_ci i) → x ≠ y → ((kq_gD g).2 (kq_ci i)) x ≠ ((kq_gD g).2 (kq_ci i)) y := va_apart (own := M.1.cls) hts hin (kq_tt (kq_ci i)) (kq_ci_ty _ h1) (kq_ci_nm _ h1) hC.D.1 (kq_cg _ h1)
  obtain ⟨cell, q1, q2, q3, q4⟩ := kq_at0 (hH.1 r i hok) h0
  obtain ⟨hS, hfc, kC, hkC, hkind⟩ := hKn
  obtain ⟨cf, kf, fi, f, hfi, hsl⟩ := hS k h2
  have hlay := hts _ (hin _ (u_in_lay h2))
  unfold u_lay at hlay
  rw [if_neg (by rw [h6]; decide)] at hlay
  have hst := (u_facts hfc hkC (u_lays hts hin h2) hfi).1
  have hty := kq_ci_ty _ h1 k h2
  rw [h7] at hty
  have h9 := u_store hfc hkC hkind hlay hfi hty hn.1 hn.2
  refine W.putK hC.1 hC.2.1 (f := f) ⟨hC.2.2.2.2.2.1, hC.w hw, ⟨_, _, _, hfi⟩, hst⟩ (by rw [q2]; exact h9) q1 q3 (by rw [hsl]; exact k2_hasslot (q4 k h2)) rfl rfl hd fun H' e1 e2 e3 => ?_
  rw [hsl] at e1 ⊢
  refine kk R kc ks l g p e s m args below meth c H' _ lc hR hC (kq_Hd.put (μ := μ) hC.2.2.2.2.2.2.2.2.1 hH hok e2 e3 ?_ (fun a b k' h => ?_) (fun a b k' h => rfl)) (Nat.le_trans hz (Nat.le_of_eq e2.symm)) (fun q hq => ?_) hV
  · unfold kq_at
    rw [h0]
    refine t_OB.to (V := updV (kq_val g μ r i) k (.int v)) ⟨_, e1, q2, q3, t_set q4 hap h2 (.int v)⟩ (fun j _ => ?_)
    by_cases hj : j = k
    · subst hj
      unfold kq_val
      rw [h4]
      simp [updV, kq_rI_wI]
    · unfold kq_val
      simp only [updV, if_neg hj, kq_rI_wI, hj, and_false, if_false, kq_rL_wI]
  · rw [kq_rI_wI, if_neg (fun z => h ⟨z.1, z.2.1⟩)]
  · rcases List.mem_append.mp hq with h | h
    · exact hL q h
    · rw [List.mem_singleton.mp h]
      exact hC.2.2.2.2.2.2.2.2.1.2 r i hok
theorem kq_putL {idx r : Nat} {v : Int64} (i k : Nat) (hd : decode M.2.1 pc = .ok (.putfield idx, 3)) (hw : Cond.fieldLink M.1.cls idx (kq_FT (kq_ci i) k).1 (kq_FT (kq_ci i) k).2.1 (kq_FT (kq_ci i) k).2.2.1 ∈ kq_tbl) (hi : kq_ck i = 0 ∧ kq_ci i < 5 ∧ k < kq_nF (kq_ci i) ∧ i ≠ 45 ∧ kq_fk i k = 1 ∧ (kq_FT (kq_ci i) k).2.2.2 = false ∧ kq_tt (kq_ci i) k = .long) (hok : kq_ok i r = true) (kk : kq_S M d (pc + 3) ls st (kq_wL μ r i k v) Q) : kq_S M d pc ls (kq_L v :: kq_R r i :: st) μ Q := by
  intro R kc ks l g p e s m args below meth c H locs lc hR hC hH hz hL hV
  obtain ⟨h0, h1, h2, h3, h4, h6, h7⟩ := hi
  rw [List.map_cons, List.map_cons, kq_trR g r h3]
  have hts : ∀ w ∈ kq_tbl, w.before args s = true := fun w h => hC.w h
  have hin := kq_ci_in _ h1
  have hKn := hC.D.K h1
  have hap : ∀ x y, x < kq_nF (kq_ci i) → y < kq_nF (kq_ci i) → x ≠ y → ((kq_gD g).2 (kq_ci i)) x ≠ ((kq_gD g).2 (kq_ci i)) y := va_apart (own := M.1.cls) hts hin (kq_tt (kq_ci i)) (kq_ci_ty _ h1) (kq_ci_nm _ h1) hC.D.1 (kq_cg _ h1)
  obtain ⟨cell, q1, q2, q3, q4⟩ := kq_at0 (hH.1 r i hok) h0
  obtain ⟨hS, hfc, kC, hkC, hkind⟩ := hKn
  obtain ⟨cf, kf, fi, f, hfi, hsl⟩ := hS k h2
  have hlay := hts _ (hin _ (u_in_lay h2))
  unfold u_lay at hlay
  rw [if_neg (by rw [h6]; decide)] at hlay
  have hst := (u_facts hfc hkC (u_lays hts hin h2) hfi).1
  have hty := kq_ci_ty _ h1 k h2
  rw [h7] at hty
  have h9 := u_store (v := .long v) hfc hkC hkind hlay hfi hty rfl rfl
  refine W.putK hC.1 hC.2.1 (f := f) ⟨hC.2.2.2.2.2.1, hC.w hw, ⟨_, _, _, hfi⟩, hst⟩ (by rw [q2]; exact h9) q1 q3 (by rw [hsl]; exact k2_hasslot (q4 k h2)) rfl rfl hd fun H' e1 e2 e3 => ?_
  rw [hsl] at e1 ⊢
  refine kk R kc ks l g p e s m args below meth c H' _ lc hR hC (kq_Hd.put (μ := μ) hC.2.2.2.2.2.2.2.2.1 hH hok e2 e3 ?_ (fun a b k' h => rfl) (fun a b k' h => ?_)) (Nat.le_trans hz (Nat.le_of_eq e2.symm)) (fun q hq => ?_) hV
  · unfold kq_at
    rw [h0]
    refine t_OB.to (V := updV (kq_val g μ r i) k (.long v)) ⟨_, e1, q2, q3, t_set q4 hap h2 (.long v)⟩ (fun j _ => ?_)
    by_cases hj : j = k
    · subst hj
      unfold kq_val
      rw [h4]
      simp [updV, kq_rL_wL]
    · unfold kq_val
      simp only [updV, if_neg hj, kq_rL_wL, hj, and_false, if_false, kq_rI_wL]
  · rw [kq_rL_wL, if_neg (fun z => h ⟨z.1, z.2.1⟩)]
  · rcases List.mem_append.mp hq with h | h
    · exact hL q h
    · rw [List.mem_singleton.mp h]
      exact hC.2.2.2.2.2.2.2.2.1.2 r i hok
/-! rows of numbers -/
theorem kq_lenlt : ∀ i, kq_len i < 2 ^ 31 := by
  intro i
  unfold kq_len
  split <;> decide
theorem kq_iald {r : Nat} {x : Int32} (i j : Nat) (hd : decode M.2.1 pc = .ok (.iaload, 1)) (hi : kq_ck i = 1 ∧ i ≠ 45) (hok : kq_ok i r = true) (hx : x = nI j) (hj : j < kq_len i) (kk : kq_S M d (pc + 1) ls (kq_I (kq_rI μ r i j) :: st) μ Q) : kq_S M d pc ls (kq_I x :: kq_R r i :: st) μ Q := by
  intro R kc ks l g p e s m args below meth c H locs lc hR hC hH hz hL hV
  rw [List.map_cons, List.map_cons, kq_trR g r hi.2]
  have h1 := kq_at1 (hH.1 r i hok) hi.1
  have hc : x.toNatClampNeg = j := by rw [hx]; exact nI_clamp (Nat.lt_trans hj (kq_lenlt i))
  subst hc
  refine W.iald (v := .int (kq_rI μ r i x.toNatClampNeg)) hC.1 hC.2.1 h1 (hC.D.aI _ _) (fun q => by cases q) ?_ ?_ rfl rfl hd (kk R kc ks l g p e s m args below meth c H locs lc hR hC hH hz hL hV)
  · rw [arrV_size, hx]
    have := vp_in_nI hj (kq_lenlt i)
    exact this
  · rw [arrV_read _ _ hj]
theorem kq_lald {r : Nat} {x : Int32} (i j : Nat) (hd : decode M.2.1 pc = .ok (.laload, 1)) (hi : kq_ck i = 2 ∧ i ≠ 45) (hok : kq_ok i r = true) (hx : x = nI j) (hj : j < kq_len i) (kk : kq_S M d (pc + 1) ls (kq_L (kq_rL μ r i j) :: st) μ Q) : kq_S M d pc ls (kq_I x :: kq_R r i :: st) μ Q := by
  intro R kc ks l g p e s m args below meth c H locs lc hR hC hH hz hL hV
  rw [List.map_cons, List.map_cons, kq_trR g r hi.2]
  have h1 := kq_at2 (hH.1 r i hok) hi.1
  have hc : x.toNatClampNeg = j := by rw [hx]; exact nI_clamp (Nat.lt_trans hj (kq_lenlt i))
  subst hc
  refine W.lald (v := .long (kq_rL μ r i x.toNatClampNeg)) hC.1 hC.2.1 h1 (hC.D.aL _ _) (fun q => by cases q) ?_ ?_ rfl rfl hd (kk R kc ks l g p e s m args below meth c H locs lc hR hC hH hz hL hV)
  · rw [arrV_size, hx]
    have := vp_in_nI hj (kq_lenlt i)
    exact this
  · rw [arrV_read _ _ hj]
theorem kq_aald {r : Nat} {x : Int32} (i j : Nat) (hd : decode M.2.1 pc = .ok (.aaload, 1)) (hi : kq_ck i = 3 ∧ i ≠ 45) (hok : kq_ok i r = true) (hx : x = nI j) (hj : j < kq_len i) (kk : kq_S M d (pc + 1) ls (kq_R j 8 :: st) μ Q) : kq_S M d pc ls (kq_I x :: kq_R r i :: st) μ Q := by
  intro R kc ks l g p e s m args below meth c H locs lc hR hC hH hz hL hV
  rw [List.map_cons, List.map_cons, kq_trR g r hi.2]
  have h1 := kq_at3 (hH.1 r i hok) hi.1
  have hc : x.toNatClampNeg = j := by rw [hx]; exact nI_clamp (Nat.lt_trans hj (kq_lenlt i))
  subst hc
  refine W.aald (v := .ref (kq_gd g x.toNatClampNeg 8)) (ty := .object "KettleInquest$Sheet") hC.1 hC.2.1 h1 (hC.D.aS _ _) rfl (fun q => by cases q) ?_ ?_ rfl rfl hd ?_
  · rw [arrV_size, hx]
    have := vp_in_nI hj (kq_lenlt i)
    exact this
  · rw [arrV_read _ _ hj]
  · have k1 := kk R kc ks l g p e s m args below meth c H locs lc hR hC hH hz hL hV
    rw [List.map_cons, kq_trR g _ (by decide)] at k1
    exact k1
theorem kq_iast {r : Nat} {x v : Int32} (i j : Nat) (hd : decode M.2.1 pc = .ok (.iastore, 1)) (hi : kq_ck i = 1 ∧ i ≠ 45) (hok : kq_ok i r = true) (hx : x = nI j) (hj : j < kq_len i) (kk : kq_S M d (pc + 1) ls st (kq_wI μ r i j v) Q) : kq_S M d pc ls (kq_I v :: kq_I x :: kq_R r i :: st) μ Q := by
  intro R kc ks l g p e s m args below meth c H locs lc hR hC hH hz hL hV
  rw [List.map_cons, List.map_cons, List.map_cons, kq_trR g r hi.2]
  have h1 := kq_at1 (hH.1 r i hok) hi.1
  have hc : x.toNatClampNeg = j := by rw [hx]; exact nI_clamp (Nat.lt_trans hj (kq_lenlt i))
  subst hc
  refine W.iast hC.1 hC.2.1 h1 (hC.D.aI _ _) (fun q => by cases q) ?_ rfl rfl hd fun H' e1 e2 e3 => ?_
  · rw [arrV_size, hx]
    have := vp_in_nI hj (kq_lenlt i)
    exact this
  · refine kk R kc ks l g p e s m args below meth c H' _ lc hR hC (kq_Hd.put (μ := μ) hC.2.2.2.2.2.2.2.2.1 hH hok e2 e3 ?_ (fun a b k' h => ?_) (fun a b k' h => rfl)) (Nat.le_trans hz (Nat.le_of_eq e2.symm)) (fun q hq => ?_) hV
    · unfold kq_at
      rw [hi.1]
      show H'[kq_gd g r i]? = some (arrV (kq_gA g 0) (kq_len i) _)
      rw [e1, arrV_store]
      congr 2
      funext q
      by_cases hq : q = x.toNatClampNeg
      · subst hq
        simp [updV, kq_rI_wI]
      · simp [updV, kq_rI_wI, hq]
    · rw [kq_rI_wI, if_neg (fun z => h ⟨z.1, z.2.1⟩)]
    · rcases List.mem_append.mp hq with h | h
      · exact hL q h
      · rw [List.mem_singleton.mp h]
        exact hC.2.2.2.2.2.2.2.2.1.2 r i hok
theorem kq_last {r : Nat} {x : Int32} {v : Int64} (i j : Nat) (hd : decode M.2.1 pc = .ok (.lastore, 1)) (hi : kq_ck i = 2 ∧ i ≠ 45) (hok : kq_ok i r = true) (hx : x = nI j) (hj : j < kq_len i) (kk : kq_S M d (pc + 1) ls st (kq_wL μ r i j v) Q) : kq_S M d pc ls (kq_L v :: kq_I x :: kq_R r i :: st) μ Q := by
  intro R kc ks l g p e s m args below meth c H locs lc hR hC hH hz hL hV
  rw [List.map_cons, List.map_cons, List.map_cons, kq_trR g r hi.2]
  have h1 := kq_at2 (hH.1 r i hok) hi.1
  have hc : x.toNatClampNeg = j := by rw [hx]; exact nI_clamp (Nat.lt_trans hj (kq_lenlt i))
  subst hc
  refine W.last hC.1 hC.2.1 h1 (hC.D.aL _ _) (fun q => by cases q) ?_ rfl rfl hd fun H' e1 e2 e3 => ?_
  · rw [arrV_size, hx]
    have := vp_in_nI hj (kq_lenlt i)
    exact this
  · refine kk R kc ks l g p e s m args below meth c H' _ lc hR hC (kq_Hd.put (μ := μ) hC.2.2.2.2.2.2.2.2.1 hH hok e2 e3 ?_ (fun a b k' h => rfl) (fun a b k' h => ?_)) (Nat.le_trans hz (Nat.le_of_eq e2.symm)) (fun q hq => ?_) hV
    · unfold kq_at
      rw [hi.1]
      show H'[kq_gd g r i]? = some (arrV (kq_gA g 1) (kq_len i) _)
      rw [e1, arrV_store]
      congr 2
      funext q
      by_cases hq : q = x.toNatClampNeg
      · subst hq
        simp [updV, kq_rL_wL]
      · simp [updV, kq_rL_wL, hq]
    · rw [kq_rL_wL, if_neg (fun z => h ⟨z.1, z.2.1⟩)]
    · rcases List.mem_append.mp hq with h | h
      · exact hL q h
      · rw [List.mem_singleton.mp h]
        exact hC.2.2.2.2.2.2.2.2.1.2 r i hok
/-! what nobody writes: the script, the two tables, the texts -/
theorem kq_sald {x : Int32} (j : Nat) (hd : decode M.2.1 pc = .ok (.iaload, 1)) (hx : x = nI j) (hj : j < (kq_sc μ).1) (hb : (kq_sc μ).1 < 2 ^ 31) (kk : kq_S M d (pc + 1) ls (kq_I ((kq_sc μ).2 j) :: st) μ Q) : kq_S M d pc ls (kq_I x :: kq_R 0 40 :: st) μ Q := by
  intro R kc ks l g p e s m args below meth c H locs lc hR hC hH hz hL hV
  rw [List.map_cons, List.map_cons, kq_trR g 0 (by decide)]
  have hX := hC.D.2.1.1.kept (H1 := s.heap) (hC.2.2.2.2.2.2.2.2.2.2 _ hC.D.2.1.2)
  have hc : x.toNatClampNeg = j := by rw [hx]; exact nI_clamp (Nat.lt_trans hj hb)
  subst hc
  exact va_sld (A := kq_A g) hC.1 hC.2.1 hX (Nat.lt_of_lt_of_le hC.D.2.1.2 hC.2.2.2.2.2.2.2.2.2.1) (Nat.not_le.mpr hC.D.2.1.2) (hC.S hH hz hL) (by rw [hx]; exact vp_in_nI hj hb) hd (kk R kc ks l g p e s m args below meth c H locs lc hR hC hH hz hL hV)
theorem kq_slen (hd : decode M.2.1 pc = .ok (.arraylength, 1)) (kk : kq_S M d (pc + 1) ls (kq_I (nI (kq_sc μ).1) :: st) μ Q) : kq_S M d pc ls (kq_R 0 40 :: st) μ Q := by
  intro R kc ks l g p e s m args below meth c H locs lc hR hC hH hz hL hV
  rw [List.map_cons, kq_trR g 0 (by decide)]
  have hX := hC.D.2.1.1.kept (H1 := s.heap) (hC.2.2.2.2.2.2.2.2.2.2 _ hC.D.2.1.2)
  exact va_slen (A := kq_A g) hC.1 hC.2.1 hX (Nat.lt_of_lt_of_le hC.D.2.1.2 hC.2.2.2.2.2.2.2.2.2.1) (Nat.not_le.mpr hC.D.2.1.2) (hC.S hH hz hL) hd (kk R kc ks l g p e s m args below meth c H locs lc hR hC hH hz hL hV)
theorem kq_ald41 {x : Int32} (j : Nat) (hd : decode M.2.1 pc = .ok (.iaload, 1)) (hx : x = nI j) (hj : j < 6) (kk : kq_S M d (pc + 1) ls (kq_I (kq_KA j) :: st) μ Q) : kq_S M d pc ls (kq_I x :: kq_R 0 41 :: st) μ Q := by
  intro R kc ks l g p e s m args below meth c H locs lc hR hC hH hz hL hV
  rw [List.map_cons, List.map_cons, kq_trR g 0 (by decide)]
  have hc : x.toNatClampNeg = j := by rw [hx]; exact nI_clamp (by omega)
  subst hc
  exact va_ti (v := .int (kq_KA x.toNatClampNeg)) hC.1 hC.2.1 (hC.D.2.2.1.2.kept hC.old) (hC.S hH hz hL) (by rw [hx]; exact vp_in_nI hj (by decide)) rfl hd (kk R kc ks l g p e s m args below meth c H locs lc hR hC hH hz hL hV)
theorem kq_ald42 {x : Int32} (j : Nat) (hd : decode M.2.1 pc = .ok (.iaload, 1)) (hx : x = nI j) (hj : j < 6) (kk : kq_S M d (pc + 1) ls (kq_I (kq_DK j) :: st) μ Q) : kq_S M d pc ls (kq_I x :: kq_R 0 42 :: st) μ Q := by
  intro R kc ks l g p e s m args below meth c H locs lc hR hC hH hz hL hV
  rw [List.map_cons, List.map_cons, kq_trR g 0 (by decide)]
  have hc : x.toNatClampNeg = j := by rw [hx]; exact nI_clamp (by omega)
  subst hc
  exact va_ti (v := .int (kq_DK x.toNatClampNeg)) hC.1 hC.2.1 (hC.D.2.2.2.1.2.kept hC.old) (hC.S hH hz hL) (by rw [hx]; exact vp_in_nI hj (by decide)) rfl hd (kk R kc ks l g p e s m args below meth c H locs lc hR hC hH hz hL hV)
theorem kq_gs41 {idx : Nat} (hd : decode M.2.1 pc = .ok (.getstatic idx, 3)) (hw : Cond.fieldLink M.1.cls idx "KettleInquest" "KIND_ABOVE" "[I" ∈ kq_tbl) (kk : kq_S M d (pc + 3) ls (kq_R 0 41 :: st) μ Q) : kq_S M d pc ls st μ Q := by
  intro R kc ks l g p e s m args below meth c H locs lc hR hC hH hz hL hV
  exact va_gets hC.1 hC.2.1 (hC.D.2.2.1.1.kept hC.old) (hC.S hH hz hL) hC.2.2.2.2.2.1 (hC.w hw) (fun _ h => h) hd (kk R kc ks l g p e s m args below meth c H locs lc hR hC hH hz hL hV)
theorem kq_gs42 (hd : decode M.2.1 pc = .ok (.getstatic 54, 3)) (ho : M.1.cls = "KettleInquest$Hall") (kk : kq_S M d (pc + 3) ls (kq_R 0 42 :: st) μ Q) : kq_S M d pc ls st μ Q := by
  intro R kc ks l g p e s m args below meth c H locs lc hR hC hH hz hL hV
  have hown := hC.2.2.2.2.2.1
  rw [ho] at hown
  exact va_getsN hC.1 hC.2.1 (hC.D.2.2.2.1.1.kept hC.old) (hC.S hH hz hL) hown (va_Nw.use (w := kq_nwD) rfl hC.D.2.2.2.2.2.2.2.2.2.2.2) (fun _ h => h) hd (kk R kc ks l g p e s m args below meth c H locs lc hR hC hH hz hL hV)
theorem kq_gsC {idx : Nat} (hd : decode M.2.1 pc = .ok (.getstatic idx, 3)) (hw : Cond.fieldLink M.1.cls idx "java/lang/String" "COMPACT_STRINGS" "Z" ∈ kq_tbl) (kk : kq_S M d (pc + 3) ls (kq_I 1 :: st) μ Q) : kq_S M d pc ls st μ Q := by
  intro R kc ks l g p e s m args below meth c H locs lc hR hC hH hz hL hV
  exact va_gets hC.1 hC.2.1 (hC.D.2.2.2.2.2.2.1.kept hC.old) (hC.S hH hz hL) hC.2.2.2.2.2.1 (hC.w hw) (fun _ h => h) hd (kk R kc ks l g p e s m args below meth c H locs lc hR hC hH hz hL hV)
theorem kq_gsF {idx : Nat} (hd : decode M.2.1 pc = .ok (.getstatic idx, 3)) (hw : Cond.fieldLink M.1.cls idx "jdk/internal/util/Preconditions" "SIOOBE_FORMATTER" "Ljava/util/function/BiFunction;" ∈ kq_tbl) (kk : kq_S M d (pc + 3) ls (kq_R 0 45 :: st) μ Q) : kq_S M d pc ls st μ Q := by
  intro R kc ks l g p e s m args below meth c H locs lc hR hC hH hz hL hV
  exact va_gets hC.1 hC.2.1 (hC.D.2.2.2.2.2.2.2.1.1.kept hC.old) (hC.S hH hz hL) hC.2.2.2.2.2.1 (hC.w hw) (fun _ h => h) hd (kk R kc ks l g p e s m args below meth c H locs lc hR hC hH hz hL hV)
theorem kq_txV {idx r : Nat} (hd : decode M.2.1 pc = .ok (.getfield idx, 3)) (hw : Cond.fieldLink M.1.cls idx "java/lang/String" "value" "[B" ∈ kq_tbl) (hr : r < 12) (kk : kq_S M d (pc + 3) ls (kq_R r 44 :: st) μ Q) : kq_S M d pc ls (kq_R r 43 :: st) μ Q := by
  intro R kc ks l g p e s m args below meth c H locs lc hR hC hH hz hL hV
  have k1 := kk R kc ks l g p e s m args below meth c H locs lc hR hC hH hz hL hV
  rw [List.map_cons, kq_trR g r (by decide)] at k1 ⊢
  exact vk_getf hC.1 hC.2.1 ((hC.D.2.2.2.2.1.1 r hr).2.2.1.kept hC.old) (hC.S hH hz hL) hC.2.2.2.2.2.1 (hC.w hw) (fun _ h => h) hd k1
theorem kq_txC {idx r : Nat} (hd : decode M.2.1 pc = .ok (.getfield idx, 3)) (hw : Cond.fieldLink M.1.cls idx "java/lang/String" "coder" "B" ∈ kq_tbl) (hr : r < 12) (kk : kq_S M d (pc + 3) ls (kq_I 0 :: st) μ Q) : kq_S M d pc ls (kq_R r 43 :: st) μ Q := by
  intro R kc ks l g p e s m args below meth c H locs lc hR hC hH hz hL hV
  rw [List.map_cons, kq_trR g r (by decide)]
  exact vk_getf hC.1 hC.2.1 ((hC.D.2.2.2.2.1.1 r hr).2.1.kept hC.old) (hC.S hH hz hL) hC.2.2.2.2.2.1 (hC.w hw) (fun _ h => h) hd (kk R kc ks l g p e s m args below meth c H locs lc hR hC hH hz hL hV)
theorem kq_txL {r : Nat} (hd : decode M.2.1 pc = .ok (.arraylength, 1)) (hr : r < 12) (kk : kq_S M d (pc + 1) ls (kq_I (nI (kq_sl.getD r 0)) :: st) μ Q) : kq_S M d pc ls (kq_R r 44 :: st) μ Q := by
  intro R kc ks l g p e s m args below meth c H locs lc hR hC hH hz hL hV
  rw [List.map_cons, kq_trR g r (by decide)]
  exact va_tlen (v := nI (kq_sl.getD r 0)) hC.1 hC.2.1 ((hC.D.2.2.2.2.1.1 r hr).2.2.2.kept hC.old) (hC.S hH hz hL) rfl hd (kk R kc ks l g p e s m args below meth c H locs lc hR hC hH hz hL hV)
theorem kq_txB {r : Nat} {x : Int32} (j : Nat) (hd : decode M.2.1 pc = .ok (.baload, 1)) (hr : r < 12) (hx : x = nI j) (hj : j < kq_sl.getD r 0) (kk : kq_S M d (pc + 1) ls (kq_I ((kq_sb.getD r []).getD j 0) :: st) μ Q) : kq_S M d pc ls (kq_I x :: kq_R r 44 :: st) μ Q := by
  intro R kc ks l g p e s m args below meth c H locs lc hR hC hH hz hL hV
  rw [List.map_cons, List.map_cons, kq_trR g r (by decide)]
  have hlt : kq_sl.getD r 0 < 2 ^ 31 := by
    have : ∀ r, r < 12 → kq_sl.getD r 0 < 2 ^ 31 := by decide
    exact this r hr
  have hc : x.toNatClampNeg = j := by rw [hx]; exact nI_clamp (Nat.lt_trans hj hlt)
  subst hc
  exact va_tb (v := .int ((kq_sb.getD r []).getD x.toNatClampNeg 0)) hC.1 hC.2.1 ((hC.D.2.2.2.2.1.1 r hr).2.2.2.kept hC.old) (hC.S hH hz hL) (by rw [hx]; exact vp_in_nI hj hlt) rfl hd (kk R kc ks l g p e s m args below meth c H locs lc hR hC hH hz hL hV)
end KM
