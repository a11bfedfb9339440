/-! THE RULES of the abstract machine: an instruction each (locals, stack, arithmetic, branches, returns) -/
theorem kq_iconst {M : kq_D} {d pc : Nat} {ls : List (Option kq_V)} {st : List kq_V} {μ : kq_M} {Q : Option kq_V → kq_M → Prop} {n : Int} {v : Int32} (hd : decode M.2.1 pc = .ok (.iconst n, 1)) (hv : Int32.ofInt n = v) (k : kq_S M d (pc + 1) ls (kq_I v :: st) μ Q) : kq_S M d pc ls (st) μ Q := by
  intro R kc ks l g p e s m args below meth c H locs lc hR hC hH hz hL hV
  exact lv_iconst (v := v) hC.1 hC.2.1 hd hv (k R kc ks l g p e s m args below meth c H locs lc hR hC hH hz hL hV)
theorem kq_bipush {M : kq_D} {d pc : Nat} {ls : List (Option kq_V)} {st : List kq_V} {μ : kq_M} {Q : Option kq_V → kq_M → Prop} {n : Int} {v : Int32} (hd : decode M.2.1 pc = .ok (.bipush n, 2)) (hv : (Int8.ofInt n).toInt32 = v) (k : kq_S M d (pc + 2) ls (kq_I v :: st) μ Q) : kq_S M d pc ls (st) μ Q := by
  intro R kc ks l g p e s m args below meth c H locs lc hR hC hH hz hL hV
  exact lv_bipush (v := v) hC.1 hC.2.1 hd hv (k R kc ks l g p e s m args below meth c H locs lc hR hC hH hz hL hV)
theorem kq_sipush {M : kq_D} {d pc : Nat} {ls : List (Option kq_V)} {st : List kq_V} {μ : kq_M} {Q : Option kq_V → kq_M → Prop} {n : Int} {v : Int32} (hd : decode M.2.1 pc = .ok (.sipush n, 3)) (hv : (Int16.ofInt n).toInt32 = v) (k : kq_S M d (pc + 3) ls (kq_I v :: st) μ Q) : kq_S M d pc ls (st) μ Q := by
  intro R kc ks l g p e s m args below meth c H locs lc hR hC hH hz hL hV
  exact lv_sipush (v := v) hC.1 hC.2.1 hd hv (k R kc ks l g p e s m args below meth c H locs lc hR hC hH hz hL hV)
theorem kq_lconst {M : kq_D} {d pc : Nat} {ls : List (Option kq_V)} {st : List kq_V} {μ : kq_M} {Q : Option kq_V → kq_M → Prop} {n : Fin 2} {v : Int64} (hd : decode M.2.1 pc = .ok (.lconst n, 1)) (hv : Int64.ofNat (n : Nat) = v) (k : kq_S M d (pc + 1) ls (kq_L v :: st) μ Q) : kq_S M d pc ls (st) μ Q := by
  intro R kc ks l g p e s m args below meth c H locs lc hR hC hH hz hL hV
  exact lv_lconst (v := v) hC.1 hC.2.1 hd hv (k R kc ks l g p e s m args below meth c H locs lc hR hC hH hz hL hV)
theorem kq_ldc {M : kq_D} {d pc : Nat} {ls : List (Option kq_V)} {st : List kq_V} {μ : kq_M} {Q : Option kq_V → kq_M → Prop} {idx : Nat} {v : Int32} (hd : decode M.2.1 pc = .ok (.ldc idx, 2)) (hw : Cond.constant M.1.cls idx v ∈ kq_tbl) (k : kq_S M d (pc + 2) ls (kq_I v :: st) μ Q) : kq_S M d pc ls (st) μ Q := by
  intro R kc ks l g p e s m args below meth c H locs lc hR hC hH hz hL hV
  exact lv_ldc hC.1 hC.2.1 hC.2.2.2.2.2.1 (hC.2.2.2.2.2.2.1 _ hw) hd (k R kc ks l g p e s m args below meth c H locs lc hR hC hH hz hL hV)
theorem kq_ldcw {M : kq_D} {d pc : Nat} {ls : List (Option kq_V)} {st : List kq_V} {μ : kq_M} {Q : Option kq_V → kq_M → Prop} {idx : Nat} {v : Int32} (hd : decode M.2.1 pc = .ok (.ldc_w idx, 3)) (hw : Cond.constant M.1.cls idx v ∈ kq_tbl) (k : kq_S M d (pc + 3) ls (kq_I v :: st) μ Q) : kq_S M d pc ls (st) μ Q := by
  intro R kc ks l g p e s m args below meth c H locs lc hR hC hH hz hL hV
  exact lv_ldcw hC.1 hC.2.1 hC.2.2.2.2.2.1 (hC.2.2.2.2.2.2.1 _ hw) hd (k R kc ks l g p e s m args below meth c H locs lc hR hC hH hz hL hV)
theorem kq_ldc2 {M : kq_D} {d pc : Nat} {ls : List (Option kq_V)} {st : List kq_V} {μ : kq_M} {Q : Option kq_V → kq_M → Prop} {idx : Nat} {v : Int64} (hd : decode M.2.1 pc = .ok (.ldc2_w idx, 3)) (hw : Cond.constantLong M.1.cls idx v ∈ kq_tbl) (k : kq_S M d (pc + 3) ls (kq_L v :: st) μ Q) : kq_S M d pc ls (st) μ Q := by
  intro R kc ks l g p e s m args below meth c H locs lc hR hC hH hz hL hV
  exact lv_ldc2 hC.1 hC.2.1 hC.2.2.2.2.2.1 (hC.2.2.2.2.2.2.1 _ hw) hd (k R kc ks l g p e s m args below meth c H locs lc hR hC hH hz hL hV)
theorem kq_ldcS {M : kq_D} {d pc : Nat} {ls : List (Option kq_V)} {st : List kq_V} {μ : kq_M} {Q : Option kq_V → kq_M → Prop} {idx : Nat} (j : Nat) (hd : decode M.2.1 pc = .ok (.ldc idx, 2)) (hj : j < 12) (ho : M.1.cls = "KettleInquest$Clerk") (hx : kq_si j = idx) (k : kq_S M d (pc + 2) ls (kq_R j 43 :: st) μ Q) : kq_S M d pc ls (st) μ Q := by
  intro R kc ks l g p e s m args below meth c H locs lc hR hC hH hz hL hV
  have hZ := hC.2.2.2.2.2.2.2.1.2.2.2.2.2.1 j hj
  rw [hx] at hZ
  have hown := hC.2.2.2.2.2.1
  rw [ho] at hown
  exact va_ldcS (tx := kq_st j) hC.1 hC.2.1 hown hZ hd (k R kc ks l g p e s m args below meth c H locs lc hR hC hH hz hL hV)
theorem kq_iload_n {M : kq_D} {d pc : Nat} {ls : List (Option kq_V)} {st : List kq_V} {μ : kq_M} {Q : Option kq_V → kq_M → Prop} {n : Fin 4} (i : Nat) {x : Int32} (hd : decode M.2.1 pc = .ok (.iload_n n, 1)) (hi : (n : Nat) = i) (hl : ls[i]? = some (some (kq_I x))) (k : kq_S M d (pc + 1) ls (kq_I x :: st) μ Q) : kq_S M d pc ls (st) μ Q := by
  intro R kc ks l g p e s m args below meth c H locs lc hR hC hH hz hL hV
  exact lv_iload_n hC.1 hC.2.1 hd hi (hV.2.2 i _ hl) (k R kc ks l g p e s m args below meth c H locs lc hR hC hH hz hL hV)
theorem kq_iload {M : kq_D} {d pc : Nat} {ls : List (Option kq_V)} {st : List kq_V} {μ : kq_M} {Q : Option kq_V → kq_M → Prop} {i : Nat} {x : Int32} (hd : decode M.2.1 pc = .ok (.iload i, 2)) (hl : ls[i]? = some (some (kq_I x))) (k : kq_S M d (pc + 2) ls (kq_I x :: st) μ Q) : kq_S M d pc ls (st) μ Q := by
  intro R kc ks l g p e s m args below meth c H locs lc hR hC hH hz hL hV
  exact lv_iload hC.1 hC.2.1 hd (hV.2.2 i _ hl) (k R kc ks l g p e s m args below meth c H locs lc hR hC hH hz hL hV)
theorem kq_lload_n {M : kq_D} {d pc : Nat} {ls : List (Option kq_V)} {st : List kq_V} {μ : kq_M} {Q : Option kq_V → kq_M → Prop} {n : Fin 4} (i : Nat) {x : Int64} (hd : decode M.2.1 pc = .ok (.lload_n n, 1)) (hi : (n : Nat) = i) (hl : ls[i]? = some (some (kq_L x))) (k : kq_S M d (pc + 1) ls (kq_L x :: st) μ Q) : kq_S M d pc ls (st) μ Q := by
  intro R kc ks l g p e s m args below meth c H locs lc hR hC hH hz hL hV
  exact lv_lload_n hC.1 hC.2.1 hd hi (hV.2.2 i _ hl) (k R kc ks l g p e s m args below meth c H locs lc hR hC hH hz hL hV)
theorem kq_lload {M : kq_D} {d pc : Nat} {ls : List (Option kq_V)} {st : List kq_V} {μ : kq_M} {Q : Option kq_V → kq_M → Prop} {i : Nat} {x : Int64} (hd : decode M.2.1 pc = .ok (.lload i, 2)) (hl : ls[i]? = some (some (kq_L x))) (k : kq_S M d (pc + 2) ls (kq_L x :: st) μ Q) : kq_S M d pc ls (st) μ Q := by
  intro R kc ks l g p e s m args below meth c H locs lc hR hC hH hz hL hV
  exact lv_lload hC.1 hC.2.1 hd (hV.2.2 i _ hl) (k R kc ks l g p e s m args below meth c H locs lc hR hC hH hz hL hV)
theorem kq_aload_n {M : kq_D} {d pc : Nat} {ls : List (Option kq_V)} {st : List kq_V} {μ : kq_M} {Q : Option kq_V → kq_M → Prop} {n : Fin 4} (i : Nat) {r j : Nat} (hd : decode M.2.1 pc = .ok (.aload_n n, 1)) (hi : (n : Nat) = i) (hl : ls[i]? = some (some (kq_R r j))) (h5 : j ≠ 45) (k : kq_S M d (pc + 1) ls (kq_R r j :: st) μ Q) : kq_S M d pc ls (st) μ Q := by
  intro R kc ks l g p e s m args below meth c H locs lc hR hC hH hz hL hV
  have h1 := hV.2.2 i _ hl
  have k1 := k R kc ks l g p e s m args below meth c H locs lc hR hC hH hz hL hV
  rw [kq_trR g r h5] at h1
  rw [List.map_cons, kq_trR g r h5] at k1
  exact lv_aload_n hC.1 hC.2.1 hd hi h1 k1
theorem kq_aload {M : kq_D} {d pc : Nat} {ls : List (Option kq_V)} {st : List kq_V} {μ : kq_M} {Q : Option kq_V → kq_M → Prop} {i : Nat} {r j : Nat} (hd : decode M.2.1 pc = .ok (.aload i, 2)) (hl : ls[i]? = some (some (kq_R r j))) (h5 : j ≠ 45) (k : kq_S M d (pc + 2) ls (kq_R r j :: st) μ Q) : kq_S M d pc ls (st) μ Q := by
  intro R kc ks l g p e s m args below meth c H locs lc hR hC hH hz hL hV
  have h1 := hV.2.2 i _ hl
  have k1 := k R kc ks l g p e s m args below meth c H locs lc hR hC hH hz hL hV
  rw [kq_trR g r h5] at h1
  rw [List.map_cons, kq_trR g r h5] at k1
  exact lv_aload hC.1 hC.2.1 hd h1 k1
/-- no long stands just ahead of slot i -/
def kq_nl (ls : List (Option kq_V)) : Nat → Bool
  | 0 => true
  | j + 1 => match ls[j]? with
    | some (some (.inr (.inl _))) => false
    | _ => true
def kq_vl (g : kq_G) (ls : List (Option kq_V)) : List (Nat × Value) := (List.range ls.length).filterMap (fun j => match ls[j]? with
  | some (some v) => some (j, kq_tr g v)
  | _ => none)
theorem kq_vl_in {g : kq_G} {ls : List (Option kq_V)} {j : Nat} {v : kq_V} (h : ls[j]? = some (some v)) : (j, kq_tr g v) ∈ kq_vl g ls := by
  refine List.mem_filterMap.mpr ⟨j, List.mem_range.mpr (List.getElem?_eq_some_iff.mp h).1, ?_⟩
  rw [h]
theorem kq_vl_of {g : kq_G} {ls : List (Option kq_V)} {q : Nat × Value} (h : q ∈ kq_vl g ls) : ∃ v, ls[q.1]? = some (some v) ∧ q.2 = kq_tr g v := by
  obtain ⟨j, -, hj⟩ := List.mem_filterMap.mp h
  split at hj
  next v hv => cases hj; exact ⟨v, hv, rfl⟩
  next => cases hj
theorem kq_lv.has {g : kq_G} {ls : List (Option kq_V)} {lc : Array Slot} {n : Nat} (h : kq_lv g ls lc n) : lv_has lc n (kq_vl g ls) := by
  refine ⟨h.1, h.2.1, fun q hq => ?_⟩
  obtain ⟨v, h1, h2⟩ := kq_vl_of hq
  rw [h2]
  exact h.2.2 _ _ h1
theorem kq_lv.set1 {g : kq_G} {ls : List (Option kq_V)} {lc : Array Slot} {n i : Nat} {v : kq_V} (hF : (kq_gF g).category = 1) (hp : kq_nl ls i = true) (h : lv_has lc n ((i, kq_tr g v) :: (kq_vl g ls).filter (fun q => !(q.1 == i) && !(q.1 + 1 == i && q.2.category == 2)))) : kq_lv g (ls.set i (some v)) lc n := by
  refine ⟨h.1, h.2.1, fun j w hj => ?_⟩
  by_cases e : j = i
  · subst e
    have hlt : j < ls.length := by
      have := (List.getElem?_eq_some_iff.mp hj).1
      rwa [List.length_set] at this
    rw [List.getElem?_set_self hlt] at hj
    cases hj
    exact h.2.2 (j, kq_tr g v) List.mem_cons_self
  · rw [List.getElem?_set_ne (Ne.symm e)] at hj
    refine h.2.2 (j, kq_tr g w) (List.mem_cons_of_mem _ (List.mem_filter.mpr ⟨kq_vl_in hj, ?_⟩))
    have hc := kq_tr_cat hF w
    simp only [Bool.and_eq_true, Bool.not_eq_true', beq_eq_false_iff_ne, ne_eq, Bool.and_eq_false_iff, hc]
    refine ⟨e, ?_⟩
    by_cases e2 : j + 1 = i
    · refine Or.inr ?_
      subst e2
      rcases w with x | x | q
      · show ¬ (1 : Nat) = 2; decide
      · simp [kq_nl, hj] at hp
      · show ¬ (1 : Nat) = 2; decide
    · exact Or.inl e2
theorem kq_lv.set2 {g : kq_G} {ls : List (Option kq_V)} {lc : Array Slot} {n i : Nat} {v : kq_V} (hF : (kq_gF g).category = 1) (hp : kq_nl ls i = true) (h : lv_has lc n ((i, kq_tr g v) :: (kq_vl g ls).filter (fun q => !(q.1 == i) && (!(q.1 == i + 1) && !(q.1 + 1 == i && q.2.category == 2))))) : kq_lv g ((ls.set i (some v)).set (i + 1) none) lc n := by
  refine ⟨h.1, h.2.1, fun j w hj => ?_⟩
  by_cases e1 : j = i + 1
  · subst e1
    have hlt := (List.getElem?_eq_some_iff.mp hj).1
    rw [List.length_set] at hlt
    rw [List.getElem?_set_self hlt] at hj
    cases hj
  rw [List.getElem?_set_ne (Ne.symm e1)] at hj
  by_cases e : j = i
  · subst e
    have hlt : j < ls.length := by
      have := (List.getElem?_eq_some_iff.mp hj).1
      rwa [List.length_set] at this
    rw [List.getElem?_set_self hlt] at hj
    cases hj
    exact h.2.2 (j, kq_tr g v) List.mem_cons_self
  · rw [List.getElem?_set_ne (Ne.symm e)] at hj
    refine h.2.2 (j, kq_tr g w) (List.mem_cons_of_mem _ (List.mem_filter.mpr ⟨kq_vl_in hj, ?_⟩))
    have hc := kq_tr_cat hF w
    simp only [Bool.and_eq_true, Bool.not_eq_true', beq_eq_false_iff_ne, ne_eq, Bool.and_eq_false_iff, hc]
    refine ⟨e, e1, ?_⟩
    by_cases e2 : j + 1 = i
    · refine Or.inr ?_
      subst e2
      rcases w with x | x | q
      · show ¬ (1 : Nat) = 2; decide
      · simp [kq_nl, hj] at hp
      · show ¬ (1 : Nat) = 2; decide
    · exact Or.inl e2
theorem kq_istore_n {M : kq_D} {d pc : Nat} {ls : List (Option kq_V)} {st : List kq_V} {μ : kq_M} {Q : Option kq_V → kq_M → Prop} {x : Int32} {n : Fin 4} (i : Nat) (hd : decode M.2.1 pc = .ok (.istore_n n, 1)) (hi : (n : Nat) = i) (hn : i < M.2.2.1) (hp : kq_nl ls i = true) (k : kq_S M d (pc + 1) (ls.set i (some (kq_I x))) st μ Q) : kq_S M d pc ls (kq_I x :: st) μ Q := by
  intro R kc ks l g p e s m args below meth c H locs lc hR hC hH hz hL hV
  refine lv_istore_n hC.1 hC.2.1 hd hi (kq_lv.has hV) hn rfl (fun lc' h' => k R kc ks l g p e s m args below meth c H locs lc' hR hC hH hz hL (kq_lv.set1 (v := kq_I x) hC.2.2.2.2.2.2.2.1.gF hp ?_))
  exact h'
theorem kq_istore {M : kq_D} {d pc : Nat} {ls : List (Option kq_V)} {st : List kq_V} {μ : kq_M} {Q : Option kq_V → kq_M → Prop} {x : Int32} {i : Nat} (hd : decode M.2.1 pc = .ok (.istore i, 2)) (hn : i < M.2.2.1) (hp : kq_nl ls i = true) (k : kq_S M d (pc + 2) (ls.set i (some (kq_I x))) st μ Q) : kq_S M d pc ls (kq_I x :: st) μ Q := by
  intro R kc ks l g p e s m args below meth c H locs lc hR hC hH hz hL hV
  refine lv_istore hC.1 hC.2.1 hd (kq_lv.has hV) hn rfl (fun lc' h' => k R kc ks l g p e s m args below meth c H locs lc' hR hC hH hz hL (kq_lv.set1 (v := kq_I x) hC.2.2.2.2.2.2.2.1.gF hp ?_))
  exact h'
theorem kq_lstore_n {M : kq_D} {d pc : Nat} {ls : List (Option kq_V)} {st : List kq_V} {μ : kq_M} {Q : Option kq_V → kq_M → Prop} {x : Int64} {n : Fin 4} (i : Nat) (hd : decode M.2.1 pc = .ok (.lstore_n n, 1)) (hi : (n : Nat) = i) (hn : i + 1 < M.2.2.1) (hp : kq_nl ls i = true) (k : kq_S M d (pc + 1) ((ls.set i (some (kq_L x))).set (i + 1) none) st μ Q) : kq_S M d pc ls (kq_L x :: st) μ Q := by
  intro R kc ks l g p e s m args below meth c H locs lc hR hC hH hz hL hV
  refine lv_lstore_n hC.1 hC.2.1 hd hi (kq_lv.has hV) hn rfl (fun lc' h' => k R kc ks l g p e s m args below meth c H locs lc' hR hC hH hz hL (kq_lv.set2 (v := kq_L x) hC.2.2.2.2.2.2.2.1.gF hp ?_))
  exact h'
theorem kq_lstore {M : kq_D} {d pc : Nat} {ls : List (Option kq_V)} {st : List kq_V} {μ : kq_M} {Q : Option kq_V → kq_M → Prop} {x : Int64} {i : Nat} (hd : decode M.2.1 pc = .ok (.lstore i, 2)) (hn : i + 1 < M.2.2.1) (hp : kq_nl ls i = true) (k : kq_S M d (pc + 2) ((ls.set i (some (kq_L x))).set (i + 1) none) st μ Q) : kq_S M d pc ls (kq_L x :: st) μ Q := by
  intro R kc ks l g p e s m args below meth c H locs lc hR hC hH hz hL hV
  refine lv_lstore hC.1 hC.2.1 hd (kq_lv.has hV) hn rfl (fun lc' h' => k R kc ks l g p e s m args below meth c H locs lc' hR hC hH hz hL (kq_lv.set2 (v := kq_L x) hC.2.2.2.2.2.2.2.1.gF hp ?_))
  exact h'
theorem kq_astore_n {M : kq_D} {d pc : Nat} {ls : List (Option kq_V)} {st : List kq_V} {μ : kq_M} {Q : Option kq_V → kq_M → Prop} {r j : Nat} {n : Fin 4} (i : Nat) (hd : decode M.2.1 pc = .ok (.astore_n n, 1)) (hi : (n : Nat) = i) (hn : i < M.2.2.1) (hp : kq_nl ls i = true) (h5 : j ≠ 45) (k : kq_S M d (pc + 1) (ls.set i (some (kq_R r j))) st μ Q) : kq_S M d pc ls (kq_R r j :: st) μ Q := by
  intro R kc ks l g p e s m args below meth c H locs lc hR hC hH hz hL hV
  show W p l e R s m args below meth c H locs kc ks _ (F0 m pc lc (kq_tr g (kq_R r j) :: st.map (kq_tr g)))
  rw [kq_trR g r h5]
  refine lv_astore_n hC.1 hC.2.1 hd hi (kq_lv.has hV) hn rfl (fun lc' h' => k R kc ks l g p e s m args below meth c H locs lc' hR hC hH hz hL (kq_lv.set1 (v := kq_R r j) hC.2.2.2.2.2.2.2.1.gF hp ?_))
  rw [kq_trR g r h5]
  exact h'
theorem kq_astore {M : kq_D} {d pc : Nat} {ls : List (Option kq_V)} {st : List kq_V} {μ : kq_M} {Q : Option kq_V → kq_M → Prop} {r j : Nat} {i : Nat} (hd : decode M.2.1 pc = .ok (.astore i, 2)) (hn : i < M.2.2.1) (hp : kq_nl ls i = true) (h5 : j ≠ 45) (k : kq_S M d (pc + 2) (ls.set i (some (kq_R r j))) st μ Q) : kq_S M d pc ls (kq_R r j :: st) μ Q := by
  intro R kc ks l g p e s m args below meth c H locs lc hR hC hH hz hL hV
  show W p l e R s m args below meth c H locs kc ks _ (F0 m pc lc (kq_tr g (kq_R r j) :: st.map (kq_tr g)))
  rw [kq_trR g r h5]
  refine lv_astore hC.1 hC.2.1 hd (kq_lv.has hV) hn rfl (fun lc' h' => k R kc ks l g p e s m args below meth c H locs lc' hR hC hH hz hL (kq_lv.set1 (v := kq_R r j) hC.2.2.2.2.2.2.2.1.gF hp ?_))
  rw [kq_trR g r h5]
  exact h'
theorem kq_iinc {M : kq_D} {d pc : Nat} {ls : List (Option kq_V)} {st : List kq_V} {μ : kq_M} {Q : Option kq_V → kq_M → Prop} {i : Nat} {n : Int} {x : Int32} (v : Int32) (hd : decode M.2.1 pc = .ok (.iinc i n, 3)) (hl : ls[i]? = some (some (kq_I x))) (hv : x + Int32.ofInt n = v) (hn : i < M.2.2.1) (hp : kq_nl ls i = true) (k : kq_S M d (pc + 3) (ls.set i (some (kq_I v))) st μ Q) : kq_S M d pc ls st μ Q := by
  intro R kc ks l g p e s m args below meth c H locs lc hR hC hH hz hL hV
  obtain ⟨k0, hk0⟩ := List.getElem?_of_mem (kq_vl_in (g := g) hl)
  exact lv_iinc hC.1 hC.2.1 hd (kq_lv.has hV) (k := k0) hk0 hv hn rfl (fun lc' h' => k R kc ks l g p e s m args below meth c H locs lc' hR hC hH hz hL (kq_lv.set1 (v := kq_I v) hC.2.2.2.2.2.2.2.1.gF hp h'))
theorem kq_iadd {M : kq_D} {d pc : Nat} {ls : List (Option kq_V)} {st : List kq_V} {μ : kq_M} {Q : Option kq_V → kq_M → Prop} {x y : Int32} (hd : decode M.2.1 pc = .ok (.iadd, 1)) (k : kq_S M d (pc + 1) ls (kq_I (x + y) :: st) μ Q) : kq_S M d pc ls (kq_I y :: kq_I x :: st) μ Q := by
  intro R kc ks l g p e s m args below meth c H locs lc hR hC hH hz hL hV
  exact lv_iadd hC.1 hC.2.1 hd (k R kc ks l g p e s m args below meth c H locs lc hR hC hH hz hL hV)
theorem kq_isub {M : kq_D} {d pc : Nat} {ls : List (Option kq_V)} {st : List kq_V} {μ : kq_M} {Q : Option kq_V → kq_M → Prop} {x y : Int32} (hd : decode M.2.1 pc = .ok (.isub, 1)) (k : kq_S M d (pc + 1) ls (kq_I (x - y) :: st) μ Q) : kq_S M d pc ls (kq_I y :: kq_I x :: st) μ Q := by
  intro R kc ks l g p e s m args below meth c H locs lc hR hC hH hz hL hV
  exact lv_isub hC.1 hC.2.1 hd (k R kc ks l g p e s m args below meth c H locs lc hR hC hH hz hL hV)
theorem kq_imul {M : kq_D} {d pc : Nat} {ls : List (Option kq_V)} {st : List kq_V} {μ : kq_M} {Q : Option kq_V → kq_M → Prop} {x y : Int32} (hd : decode M.2.1 pc = .ok (.imul, 1)) (k : kq_S M d (pc + 1) ls (kq_I (x * y) :: st) μ Q) : kq_S M d pc ls (kq_I y :: kq_I x :: st) μ Q := by
  intro R kc ks l g p e s m args below meth c H locs lc hR hC hH hz hL hV
  exact lv_imul hC.1 hC.2.1 hd (k R kc ks l g p e s m args below meth c H locs lc hR hC hH hz hL hV)
theorem kq_iand {M : kq_D} {d pc : Nat} {ls : List (Option kq_V)} {st : List kq_V} {μ : kq_M} {Q : Option kq_V → kq_M → Prop} {x y : Int32} (hd : decode M.2.1 pc = .ok (.iand, 1)) (k : kq_S M d (pc + 1) ls (kq_I (x &&& y) :: st) μ Q) : kq_S M d pc ls (kq_I y :: kq_I x :: st) μ Q := by
  intro R kc ks l g p e s m args below meth c H locs lc hR hC hH hz hL hV
  exact lv_iand hC.1 hC.2.1 hd (k R kc ks l g p e s m args below meth c H locs lc hR hC hH hz hL hV)
theorem kq_ior {M : kq_D} {d pc : Nat} {ls : List (Option kq_V)} {st : List kq_V} {μ : kq_M} {Q : Option kq_V → kq_M → Prop} {x y : Int32} (hd : decode M.2.1 pc = .ok (.ior, 1)) (k : kq_S M d (pc + 1) ls (kq_I (x ||| y) :: st) μ Q) : kq_S M d pc ls (kq_I y :: kq_I x :: st) μ Q := by
  intro R kc ks l g p e s m args below meth c H locs lc hR hC hH hz hL hV
  exact lv_ior hC.1 hC.2.1 hd (k R kc ks l g p e s m args below meth c H locs lc hR hC hH hz hL hV)
theorem kq_ixor {M : kq_D} {d pc : Nat} {ls : List (Option kq_V)} {st : List kq_V} {μ : kq_M} {Q : Option kq_V → kq_M → Prop} {x y : Int32} (hd : decode M.2.1 pc = .ok (.ixor, 1)) (k : kq_S M d (pc + 1) ls (kq_I (x ^^^ y) :: st) μ Q) : kq_S M d pc ls (kq_I y :: kq_I x :: st) μ Q := by
  intro R kc ks l g p e s m args below meth c H locs lc hR hC hH hz hL hV
  exact lv_ixor hC.1 hC.2.1 hd (k R kc ks l g p e s m args below meth c H locs lc hR hC hH hz hL hV)
theorem kq_ishl {M : kq_D} {d pc : Nat} {ls : List (Option kq_V)} {st : List kq_V} {μ : kq_M} {Q : Option kq_V → kq_M → Prop} {x y : Int32} (hd : decode M.2.1 pc = .ok (.ishl, 1)) (k : kq_S M d (pc + 1) ls (kq_I (x <<< (y &&& 31)) :: st) μ Q) : kq_S M d pc ls (kq_I y :: kq_I x :: st) μ Q := by
  intro R kc ks l g p e s m args below meth c H locs lc hR hC hH hz hL hV
  exact lv_ishl hC.1 hC.2.1 hd (k R kc ks l g p e s m args below meth c H locs lc hR hC hH hz hL hV)
theorem kq_ishr {M : kq_D} {d pc : Nat} {ls : List (Option kq_V)} {st : List kq_V} {μ : kq_M} {Q : Option kq_V → kq_M → Prop} {x y : Int32} (hd : decode M.2.1 pc = .ok (.ishr, 1)) (k : kq_S M d (pc + 1) ls (kq_I (x >>> (y &&& 31)) :: st) μ Q) : kq_S M d pc ls (kq_I y :: kq_I x :: st) μ Q := by
  intro R kc ks l g p e s m args below meth c H locs lc hR hC hH hz hL hV
  exact lv_ishr hC.1 hC.2.1 hd (k R kc ks l g p e s m args below meth c H locs lc hR hC hH hz hL hV)
theorem kq_idiv {M : kq_D} {d pc : Nat} {ls : List (Option kq_V)} {st : List kq_V} {μ : kq_M} {Q : Option kq_V → kq_M → Prop} {x y : Int32} (hd : decode M.2.1 pc = .ok (.idiv, 1)) (hne : ¬ y = 0) (k : kq_S M d (pc + 1) ls (kq_I (x / y) :: st) μ Q) : kq_S M d pc ls (kq_I y :: kq_I x :: st) μ Q := by
  intro R kc ks l g p e s m args below meth c H locs lc hR hC hH hz hL hV
  exact lv_idiv hC.1 hC.2.1 hd hne (k R kc ks l g p e s m args below meth c H locs lc hR hC hH hz hL hV)
theorem kq_irem {M : kq_D} {d pc : Nat} {ls : List (Option kq_V)} {st : List kq_V} {μ : kq_M} {Q : Option kq_V → kq_M → Prop} {x y : Int32} (hd : decode M.2.1 pc = .ok (.irem, 1)) (hne : ¬ y = 0) (k : kq_S M d (pc + 1) ls (kq_I (x - x / y * y) :: st) μ Q) : kq_S M d pc ls (kq_I y :: kq_I x :: st) μ Q := by
  intro R kc ks l g p e s m args below meth c H locs lc hR hC hH hz hL hV
  exact lv_irem hC.1 hC.2.1 hd hne (k R kc ks l g p e s m args below meth c H locs lc hR hC hH hz hL hV)
theorem kq_ineg {M : kq_D} {d pc : Nat} {ls : List (Option kq_V)} {st : List kq_V} {μ : kq_M} {Q : Option kq_V → kq_M → Prop} {x : Int32} (hd : decode M.2.1 pc = .ok (.ineg, 1)) (k : kq_S M d (pc + 1) ls (kq_I (-x) :: st) μ Q) : kq_S M d pc ls (kq_I x :: st) μ Q := by
  intro R kc ks l g p e s m args below meth c H locs lc hR hC hH hz hL hV
  exact lv_ineg hC.1 hC.2.1 hd (k R kc ks l g p e s m args below meth c H locs lc hR hC hH hz hL hV)
theorem kq_iushr {M : kq_D} {d pc : Nat} {ls : List (Option kq_V)} {st : List kq_V} {μ : kq_M} {Q : Option kq_V → kq_M → Prop} {x y : Int32} (hd : decode M.2.1 pc = .ok (.iushr, 1)) (k : kq_S M d (pc + 1) ls (kq_I ((x.toUInt32 >>> (y.toUInt32 &&& Int32.toUInt32 31)).toInt32) :: st) μ Q) : kq_S M d pc ls (kq_I y :: kq_I x :: st) μ Q := by
  intro R kc ks l g p e s m args below meth c H locs lc hR hC hH hz hL hV
  exact lv_iushr hC.1 hC.2.1 hd rfl (k R kc ks l g p e s m args below meth c H locs lc hR hC hH hz hL hV)
theorem kq_ladd {M : kq_D} {d pc : Nat} {ls : List (Option kq_V)} {st : List kq_V} {μ : kq_M} {Q : Option kq_V → kq_M → Prop} {x y : Int64} (hd : decode M.2.1 pc = .ok (.ladd, 1)) (k : kq_S M d (pc + 1) ls (kq_L (x + y) :: st) μ Q) : kq_S M d pc ls (kq_L y :: kq_L x :: st) μ Q := by
  intro R kc ks l g p e s m args below meth c H locs lc hR hC hH hz hL hV
  exact lv_ladd hC.1 hC.2.1 hd (k R kc ks l g p e s m args below meth c H locs lc hR hC hH hz hL hV)
theorem kq_lsub {M : kq_D} {d pc : Nat} {ls : List (Option kq_V)} {st : List kq_V} {μ : kq_M} {Q : Option kq_V → kq_M → Prop} {x y : Int64} (hd : decode M.2.1 pc = .ok (.lsub, 1)) (k : kq_S M d (pc + 1) ls (kq_L (x - y) :: st) μ Q) : kq_S M d pc ls (kq_L y :: kq_L x :: st) μ Q := by
  intro R kc ks l g p e s m args below meth c H locs lc hR hC hH hz hL hV
  exact lv_lsub hC.1 hC.2.1 hd (k R kc ks l g p e s m args below meth c H locs lc hR hC hH hz hL hV)
theorem kq_lmul {M : kq_D} {d pc : Nat} {ls : List (Option kq_V)} {st : List kq_V} {μ : kq_M} {Q : Option kq_V → kq_M → Prop} {x y : Int64} (hd : decode M.2.1 pc = .ok (.lmul, 1)) (k : kq_S M d (pc + 1) ls (kq_L (x * y) :: st) μ Q) : kq_S M d pc ls (kq_L y :: kq_L x :: st) μ Q := by
  intro R kc ks l g p e s m args below meth c H locs lc hR hC hH hz hL hV
  exact lv_lmul hC.1 hC.2.1 hd (k R kc ks l g p e s m args below meth c H locs lc hR hC hH hz hL hV)
theorem kq_land {M : kq_D} {d pc : Nat} {ls : List (Option kq_V)} {st : List kq_V} {μ : kq_M} {Q : Option kq_V → kq_M → Prop} {x y : Int64} (hd : decode M.2.1 pc = .ok (.land, 1)) (k : kq_S M d (pc + 1) ls (kq_L (x &&& y) :: st) μ Q) : kq_S M d pc ls (kq_L y :: kq_L x :: st) μ Q := by
  intro R kc ks l g p e s m args below meth c H locs lc hR hC hH hz hL hV
  exact lv_land hC.1 hC.2.1 hd (k R kc ks l g p e s m args below meth c H locs lc hR hC hH hz hL hV)
theorem kq_lor {M : kq_D} {d pc : Nat} {ls : List (Option kq_V)} {st : List kq_V} {μ : kq_M} {Q : Option kq_V → kq_M → Prop} {x y : Int64} (hd : decode M.2.1 pc = .ok (.lor, 1)) (k : kq_S M d (pc + 1) ls (kq_L (x ||| y) :: st) μ Q) : kq_S M d pc ls (kq_L y :: kq_L x :: st) μ Q := by
  intro R kc ks l g p e s m args below meth c H locs lc hR hC hH hz hL hV
  exact lv_lor hC.1 hC.2.1 hd (k R kc ks l g p e s m args below meth c H locs lc hR hC hH hz hL hV)
theorem kq_lshl {M : kq_D} {d pc : Nat} {ls : List (Option kq_V)} {st : List kq_V} {μ : kq_M} {Q : Option kq_V → kq_M → Prop} {x : Int64} {y : Int32} (hd : decode M.2.1 pc = .ok (.lshl, 1)) (k : kq_S M d (pc + 1) ls (kq_L (x <<< (y.toInt64 &&& 63)) :: st) μ Q) : kq_S M d pc ls (kq_I y :: kq_L x :: st) μ Q := by
  intro R kc ks l g p e s m args below meth c H locs lc hR hC hH hz hL hV
  exact lv_lshl hC.1 hC.2.1 hd rfl (k R kc ks l g p e s m args below meth c H locs lc hR hC hH hz hL hV)
theorem kq_lshr {M : kq_D} {d pc : Nat} {ls : List (Option kq_V)} {st : List kq_V} {μ : kq_M} {Q : Option kq_V → kq_M → Prop} {x : Int64} {y : Int32} (hd : decode M.2.1 pc = .ok (.lshr, 1)) (k : kq_S M d (pc + 1) ls (kq_L (x >>> (y.toInt64 &&& 63)) :: st) μ Q) : kq_S M d pc ls (kq_I y :: kq_L x :: st) μ Q := by
  intro R kc ks l g p e s m args below meth c H locs lc hR hC hH hz hL hV
  exact lv_lshr hC.1 hC.2.1 hd rfl (k R kc ks l g p e s m args below meth c H locs lc hR hC hH hz hL hV)
theorem kq_lcmp {M : kq_D} {d pc : Nat} {ls : List (Option kq_V)} {st : List kq_V} {μ : kq_M} {Q : Option kq_V → kq_M → Prop} {x y : Int64} (hd : decode M.2.1 pc = .ok (.lcmp, 1)) (k : kq_S M d (pc + 1) ls (kq_I (lg_cmp x y) :: st) μ Q) : kq_S M d pc ls (kq_L y :: kq_L x :: st) μ Q := by
  intro R kc ks l g p e s m args below meth c H locs lc hR hC hH hz hL hV
  exact W.lcmp hC.1 hC.2.1 hd (k R kc ks l g p e s m args below meth c H locs lc hR hC hH hz hL hV)
theorem kq_i2l {M : kq_D} {d pc : Nat} {ls : List (Option kq_V)} {st : List kq_V} {μ : kq_M} {Q : Option kq_V → kq_M → Prop} {x : Int32} (hd : decode M.2.1 pc = .ok (.i2l, 1)) (k : kq_S M d (pc + 1) ls (kq_L x.toInt64 :: st) μ Q) : kq_S M d pc ls (kq_I x :: st) μ Q := by
  intro R kc ks l g p e s m args below meth c H locs lc hR hC hH hz hL hV
  exact lv_i2l hC.1 hC.2.1 hd rfl (k R kc ks l g p e s m args below meth c H locs lc hR hC hH hz hL hV)
theorem kq_l2i {M : kq_D} {d pc : Nat} {ls : List (Option kq_V)} {st : List kq_V} {μ : kq_M} {Q : Option kq_V → kq_M → Prop} {x : Int64} (hd : decode M.2.1 pc = .ok (.l2i, 1)) (k : kq_S M d (pc + 1) ls (kq_I x.toInt32 :: st) μ Q) : kq_S M d pc ls (kq_L x :: st) μ Q := by
  intro R kc ks l g p e s m args below meth c H locs lc hR hC hH hz hL hV
  exact lv_l2i hC.1 hC.2.1 hd rfl (k R kc ks l g p e s m args below meth c H locs lc hR hC hH hz hL hV)
theorem kq_i2b {M : kq_D} {d pc : Nat} {ls : List (Option kq_V)} {st : List kq_V} {μ : kq_M} {Q : Option kq_V → kq_M → Prop} {x : Int32} (hd : decode M.2.1 pc = .ok (.i2b, 1)) (k : kq_S M d (pc + 1) ls (kq_I x.toInt8.toInt32 :: st) μ Q) : kq_S M d pc ls (kq_I x :: st) μ Q := by
  intro R kc ks l g p e s m args below meth c H locs lc hR hC hH hz hL hV
  exact lv_i2b hC.1 hC.2.1 hd rfl (k R kc ks l g p e s m args below meth c H locs lc hR hC hH hz hL hV)
theorem kq_i2s {M : kq_D} {d pc : Nat} {ls : List (Option kq_V)} {st : List kq_V} {μ : kq_M} {Q : Option kq_V → kq_M → Prop} {x : Int32} (hd : decode M.2.1 pc = .ok (.i2s, 1)) (k : kq_S M d (pc + 1) ls (kq_I x.toInt16.toInt32 :: st) μ Q) : kq_S M d pc ls (kq_I x :: st) μ Q := by
  intro R kc ks l g p e s m args below meth c H locs lc hR hC hH hz hL hV
  exact lv_i2s hC.1 hC.2.1 hd rfl (k R kc ks l g p e s m args below meth c H locs lc hR hC hH hz hL hV)
theorem kq_i2c {M : kq_D} {d pc : Nat} {ls : List (Option kq_V)} {st : List kq_V} {μ : kq_M} {Q : Option kq_V → kq_M → Prop} {x : Int32} (hd : decode M.2.1 pc = .ok (.i2c, 1)) (k : kq_S M d (pc + 1) ls (kq_I (x.toUInt32 % 65536).toInt32 :: st) μ Q) : kq_S M d pc ls (kq_I x :: st) μ Q := by
  intro R kc ks l g p e s m args below meth c H locs lc hR hC hH hz hL hV
  exact lv_i2c hC.1 hC.2.1 hd rfl (k R kc ks l g p e s m args below meth c H locs lc hR hC hH hz hL hV)
theorem kq_dup {M : kq_D} {d pc : Nat} {ls : List (Option kq_V)} {st : List kq_V} {μ : kq_M} {Q : Option kq_V → kq_M → Prop} {v : kq_V} (hd : decode M.2.1 pc = .ok (.dup, 1)) (hc : kq_cat v = 1) (k : kq_S M d (pc + 1) ls (v :: v :: st) μ Q) : kq_S M d pc ls (v :: st) μ Q := by
  intro R kc ks l g p e s m args below meth c H locs lc hR hC hH hz hL hV
  exact lv_dup hC.1 hC.2.1 hd (by rw [kq_tr_cat hC.2.2.2.2.2.2.2.1.gF]; exact hc) (k R kc ks l g p e s m args below meth c H locs lc hR hC hH hz hL hV)
theorem kq_pop {M : kq_D} {d pc : Nat} {ls : List (Option kq_V)} {st : List kq_V} {μ : kq_M} {Q : Option kq_V → kq_M → Prop} {v : kq_V} (hd : decode M.2.1 pc = .ok (.pop, 1)) (hc : kq_cat v = 1) (k : kq_S M d (pc + 1) ls (st) μ Q) : kq_S M d pc ls (v :: st) μ Q := by
  intro R kc ks l g p e s m args below meth c H locs lc hR hC hH hz hL hV
  exact lv_pop hC.1 hC.2.1 hd (by rw [kq_tr_cat hC.2.2.2.2.2.2.2.1.gF]; exact hc) (k R kc ks l g p e s m args below meth c H locs lc hR hC hH hz hL hV)
theorem kq_dup2 {M : kq_D} {d pc : Nat} {ls : List (Option kq_V)} {st : List kq_V} {μ : kq_M} {Q : Option kq_V → kq_M → Prop} {v w : kq_V} (hd : decode M.2.1 pc = .ok (.dup2, 1)) (hc : kq_cat v = 1) (hc2 : kq_cat w = 1) (k : kq_S M d (pc + 1) ls (v :: w :: v :: w :: st) μ Q) : kq_S M d pc ls (v :: w :: st) μ Q := by
  intro R kc ks l g p e s m args below meth c H locs lc hR hC hH hz hL hV
  exact lv_dup2_11 hC.1 hC.2.1 hd (by rw [kq_tr_cat hC.2.2.2.2.2.2.2.1.gF]; exact hc) (by rw [kq_tr_cat hC.2.2.2.2.2.2.2.1.gF]; exact hc2) (k R kc ks l g p e s m args below meth c H locs lc hR hC hH hz hL hV)
theorem kq_if_eq {M : kq_D} {d pc : Nat} {ls : List (Option kq_V)} {st : List kq_V} {μ : kq_M} {Q : Option kq_V → kq_M → Prop} {x : Int32} {off : Int} (tgt : Nat) (hd : decode M.2.1 pc = .ok (.ifCond .eq off, 3)) (ht : (pc : Int) + off = (tgt : Int)) (kt : x = 0 → kq_S M d tgt ls st μ Q) (kf : ¬ x = 0 → kq_S M d (pc + 3) ls st μ Q) : kq_S M d pc ls (kq_I x :: st) μ Q := by
  intro R kc ks l g p e s m args below meth c H locs lc hR hC hH hz hL hV
  exact lv_if_eq (tgt := tgt) hC.1 hC.2.1 hd ht (fun h => kt h R kc ks l g p e s m args below meth c H locs lc hR hC hH hz hL hV) (fun h => kf h R kc ks l g p e s m args below meth c H locs lc hR hC hH hz hL hV)
theorem kq_icmp_eq {M : kq_D} {d pc : Nat} {ls : List (Option kq_V)} {st : List kq_V} {μ : kq_M} {Q : Option kq_V → kq_M → Prop} {x y : Int32} {off : Int} (tgt : Nat) (hd : decode M.2.1 pc = .ok (.if_icmp .eq off, 3)) (ht : (pc : Int) + off = (tgt : Int)) (kt : x = y → kq_S M d tgt ls st μ Q) (kf : ¬ x = y → kq_S M d (pc + 3) ls st μ Q) : kq_S M d pc ls (kq_I y :: kq_I x :: st) μ Q := by
  intro R kc ks l g p e s m args below meth c H locs lc hR hC hH hz hL hV
  exact lv_icmp_eq (tgt := tgt) hC.1 hC.2.1 hd ht (fun h => kt h R kc ks l g p e s m args below meth c H locs lc hR hC hH hz hL hV) (fun h => kf h R kc ks l g p e s m args below meth c H locs lc hR hC hH hz hL hV)
theorem kq_if_ne {M : kq_D} {d pc : Nat} {ls : List (Option kq_V)} {st : List kq_V} {μ : kq_M} {Q : Option kq_V → kq_M → Prop} {x : Int32} {off : Int} (tgt : Nat) (hd : decode M.2.1 pc = .ok (.ifCond .ne off, 3)) (ht : (pc : Int) + off = (tgt : Int)) (kt : ¬ x = 0 → kq_S M d tgt ls st μ Q) (kf : x = 0 → kq_S M d (pc + 3) ls st μ Q) : kq_S M d pc ls (kq_I x :: st) μ Q := by
  intro R kc ks l g p e s m args below meth c H locs lc hR hC hH hz hL hV
  exact lv_if_ne (tgt := tgt) hC.1 hC.2.1 hd ht (fun h => kt h R kc ks l g p e s m args below meth c H locs lc hR hC hH hz hL hV) (fun h => kf h R kc ks l g p e s m args below meth c H locs lc hR hC hH hz hL hV)
theorem kq_icmp_ne {M : kq_D} {d pc : Nat} {ls : List (Option kq_V)} {st : List kq_V} {μ : kq_M} {Q : Option kq_V → kq_M → Prop} {x y : Int32} {off : Int} (tgt : Nat) (hd : decode M.2.1 pc = .ok (.if_icmp .ne off, 3)) (ht : (pc : Int) + off = (tgt : Int)) (kt : ¬ x = y → kq_S M d tgt ls st μ Q) (kf : x = y → kq_S M d (pc + 3) ls st μ Q) : kq_S M d pc ls (kq_I y :: kq_I x :: st) μ Q := by
  intro R kc ks l g p e s m args below meth c H locs lc hR hC hH hz hL hV
  exact lv_icmp_ne (tgt := tgt) hC.1 hC.2.1 hd ht (fun h => kt h R kc ks l g p e s m args below meth c H locs lc hR hC hH hz hL hV) (fun h => kf h R kc ks l g p e s m args below meth c H locs lc hR hC hH hz hL hV)
theorem kq_if_lt {M : kq_D} {d pc : Nat} {ls : List (Option kq_V)} {st : List kq_V} {μ : kq_M} {Q : Option kq_V → kq_M → Prop} {x : Int32} {off : Int} (tgt : Nat) (hd : decode M.2.1 pc = .ok (.ifCond .lt off, 3)) (ht : (pc : Int) + off = (tgt : Int)) (kt : x < 0 → kq_S M d tgt ls st μ Q) (kf : ¬ x < 0 → kq_S M d (pc + 3) ls st μ Q) : kq_S M d pc ls (kq_I x :: st) μ Q := by
  intro R kc ks l g p e s m args below meth c H locs lc hR hC hH hz hL hV
  exact lv_if_lt (tgt := tgt) hC.1 hC.2.1 hd ht (fun h => kt h R kc ks l g p e s m args below meth c H locs lc hR hC hH hz hL hV) (fun h => kf h R kc ks l g p e s m args below meth c H locs lc hR hC hH hz hL hV)
theorem kq_icmp_lt {M : kq_D} {d pc : Nat} {ls : List (Option kq_V)} {st : List kq_V} {μ : kq_M} {Q : Option kq_V → kq_M → Prop} {x y : Int32} {off : Int} (tgt : Nat) (hd : decode M.2.1 pc = .ok (.if_icmp .lt off, 3)) (ht : (pc : Int) + off = (tgt : Int)) (kt : x < y → kq_S M d tgt ls st μ Q) (kf : ¬ x < y → kq_S M d (pc + 3) ls st μ Q) : kq_S M d pc ls (kq_I y :: kq_I x :: st) μ Q := by
  intro R kc ks l g p e s m args below meth c H locs lc hR hC hH hz hL hV
  exact lv_icmp_lt (tgt := tgt) hC.1 hC.2.1 hd ht (fun h => kt h R kc ks l g p e s m args below meth c H locs lc hR hC hH hz hL hV) (fun h => kf h R kc ks l g p e s m args below meth c H locs lc hR hC hH hz hL hV)
theorem kq_if_ge {M : kq_D} {d pc : Nat} {ls : List (Option kq_V)} {st : List kq_V} {μ : kq_M} {Q : Option kq_V → kq_M → Prop} {x : Int32} {off : Int} (tgt : Nat) (hd : decode M.2.1 pc = .ok (.ifCond .ge off, 3)) (ht : (pc : Int) + off = (tgt : Int)) (kt : 0 ≤ x → kq_S M d tgt ls st μ Q) (kf : ¬ 0 ≤ x → kq_S M d (pc + 3) ls st μ Q) : kq_S M d pc ls (kq_I x :: st) μ Q := by
  intro R kc ks l g p e s m args below meth c H locs lc hR hC hH hz hL hV
  exact lv_if_ge (tgt := tgt) hC.1 hC.2.1 hd ht (fun h => kt h R kc ks l g p e s m args below meth c H locs lc hR hC hH hz hL hV) (fun h => kf h R kc ks l g p e s m args below meth c H locs lc hR hC hH hz hL hV)
theorem kq_icmp_ge {M : kq_D} {d pc : Nat} {ls : List (Option kq_V)} {st : List kq_V} {μ : kq_M} {Q : Option kq_V → kq_M → Prop} {x y : Int32} {off : Int} (tgt : Nat) (hd : decode M.2.1 pc = .ok (.if_icmp .ge off, 3)) (ht : (pc : Int) + off = (tgt : Int)) (kt : y ≤ x → kq_S M d tgt ls st μ Q) (kf : ¬ y ≤ x → kq_S M d (pc + 3) ls st μ Q) : kq_S M d pc ls (kq_I y :: kq_I x :: st) μ Q := by
  intro R kc ks l g p e s m args below meth c H locs lc hR hC hH hz hL hV
  exact lv_icmp_ge (tgt := tgt) hC.1 hC.2.1 hd ht (fun h => kt h R kc ks l g p e s m args below meth c H locs lc hR hC hH hz hL hV) (fun h => kf h R kc ks l g p e s m args below meth c H locs lc hR hC hH hz hL hV)
theorem kq_if_gt {M : kq_D} {d pc : Nat} {ls : List (Option kq_V)} {st : List kq_V} {μ : kq_M} {Q : Option kq_V → kq_M → Prop} {x : Int32} {off : Int} (tgt : Nat) (hd : decode M.2.1 pc = .ok (.ifCond .gt off, 3)) (ht : (pc : Int) + off = (tgt : Int)) (kt : 0 < x → kq_S M d tgt ls st μ Q) (kf : ¬ 0 < x → kq_S M d (pc + 3) ls st μ Q) : kq_S M d pc ls (kq_I x :: st) μ Q := by
  intro R kc ks l g p e s m args below meth c H locs lc hR hC hH hz hL hV
  exact lv_if_gt (tgt := tgt) hC.1 hC.2.1 hd ht (fun h => kt h R kc ks l g p e s m args below meth c H locs lc hR hC hH hz hL hV) (fun h => kf h R kc ks l g p e s m args below meth c H locs lc hR hC hH hz hL hV)
theorem kq_icmp_gt {M : kq_D} {d pc : Nat} {ls : List (Option kq_V)} {st : List kq_V} {μ : kq_M} {Q : Option kq_V → kq_M → Prop} {x y : Int32} {off : Int} (tgt : Nat) (hd : decode M.2.1 pc = .ok (.if_icmp .gt off, 3)) (ht : (pc : Int) + off = (tgt : Int)) (kt : y < x → kq_S M d tgt ls st μ Q) (kf : ¬ y < x → kq_S M d (pc + 3) ls st μ Q) : kq_S M d pc ls (kq_I y :: kq_I x :: st) μ Q := by
  intro R kc ks l g p e s m args below meth c H locs lc hR hC hH hz hL hV
  exact lv_icmp_gt (tgt := tgt) hC.1 hC.2.1 hd ht (fun h => kt h R kc ks l g p e s m args below meth c H locs lc hR hC hH hz hL hV) (fun h => kf h R kc ks l g p e s m args below meth c H locs lc hR hC hH hz hL hV)
theorem kq_if_le {M : kq_D} {d pc : Nat} {ls : List (Option kq_V)} {st : List kq_V} {μ : kq_M} {Q : Option kq_V → kq_M → Prop} {x : Int32} {off : Int} (tgt : Nat) (hd : decode M.2.1 pc = .ok (.ifCond .le off, 3)) (ht : (pc : Int) + off = (tgt : Int)) (kt : x ≤ 0 → kq_S M d tgt ls st μ Q) (kf : ¬ x ≤ 0 → kq_S M d (pc + 3) ls st μ Q) : kq_S M d pc ls (kq_I x :: st) μ Q := by
  intro R kc ks l g p e s m args below meth c H locs lc hR hC hH hz hL hV
  exact lv_if_le (tgt := tgt) hC.1 hC.2.1 hd ht (fun h => kt h R kc ks l g p e s m args below meth c H locs lc hR hC hH hz hL hV) (fun h => kf h R kc ks l g p e s m args below meth c H locs lc hR hC hH hz hL hV)
theorem kq_icmp_le {M : kq_D} {d pc : Nat} {ls : List (Option kq_V)} {st : List kq_V} {μ : kq_M} {Q : Option kq_V → kq_M → Prop} {x y : Int32} {off : Int} (tgt : Nat) (hd : decode M.2.1 pc = .ok (.if_icmp .le off, 3)) (ht : (pc : Int) + off = (tgt : Int)) (kt : x ≤ y → kq_S M d tgt ls st μ Q) (kf : ¬ x ≤ y → kq_S M d (pc + 3) ls st μ Q) : kq_S M d pc ls (kq_I y :: kq_I x :: st) μ Q := by
  intro R kc ks l g p e s m args below meth c H locs lc hR hC hH hz hL hV
  exact lv_icmp_le (tgt := tgt) hC.1 hC.2.1 hd ht (fun h => kt h R kc ks l g p e s m args below meth c H locs lc hR hC hH hz hL hV) (fun h => kf h R kc ks l g p e s m args below meth c H locs lc hR hC hH hz hL hV)
theorem kq_goto {M : kq_D} {d pc : Nat} {ls : List (Option kq_V)} {st : List kq_V} {μ : kq_M} {Q : Option kq_V → kq_M → Prop} {off : Int} (tgt : Nat) (hd : decode M.2.1 pc = .ok (.goto off, 3)) (ht : (pc : Int) + off = (tgt : Int)) (k : kq_S M d tgt ls st μ Q) : kq_S M d pc ls st μ Q := by
  intro R kc ks l g p e s m args below meth c H locs lc hR hC hH hz hL hV
  exact lv_goto (tgt := tgt) hC.1 hC.2.1 hd ht (k R kc ks l g p e s m args below meth c H locs lc hR hC hH hz hL hV)
theorem kq_tabOut {M : kq_D} {d pc : Nat} {ls : List (Option kq_V)} {st : List kq_V} {μ : kq_M} {Q : Option kq_V → kq_M → Prop} {dflt lo hi : Int} {offs : Array Int} {len : Nat} {x : Int32} (tgt : Nat) (hd : decode M.2.1 pc = .ok (.tableswitch dflt lo hi offs, len)) (h : x.toInt < lo ∨ hi < x.toInt) (ht : (pc : Int) + dflt = (tgt : Int)) (k : kq_S M d tgt ls st μ Q) : kq_S M d pc ls (kq_I x :: st) μ Q := by
  intro R kc ks l g p e s m args below meth c H locs lc hR hC hH hz hL hV
  exact lv_tableOut (tgt := tgt) hC.1 hC.2.1 hd h ht (k R kc ks l g p e s m args below meth c H locs lc hR hC hH hz hL hV)
theorem kq_tabIn {M : kq_D} {d pc : Nat} {ls : List (Option kq_V)} {st : List kq_V} {μ : kq_M} {Q : Option kq_V → kq_M → Prop} {dflt lo hi : Int} {offs : Array Int} {len : Nat} {x : Int32} {off : Int} (tgt : Nat) (hd : decode M.2.1 pc = .ok (.tableswitch dflt lo hi offs, len)) (h1 : ¬ x.toInt < lo) (h2 : ¬ hi < x.toInt) (ho : offs[(x.toInt - lo).toNat]? = some off) (ht : (pc : Int) + off = (tgt : Int)) (k : kq_S M d tgt ls st μ Q) : kq_S M d pc ls (kq_I x :: st) μ Q := by
  intro R kc ks l g p e s m args below meth c H locs lc hR hC hH hz hL hV
  exact lv_tableIn (tgt := tgt) hC.1 hC.2.1 hd h1 h2 ho ht (k R kc ks l g p e s m args below meth c H locs lc hR hC hH hz hL hV)
theorem kq_lookup {M : kq_D} {d pc : Nat} {ls : List (Option kq_V)} {st : List kq_V} {μ : kq_M} {Q : Option kq_V → kq_M → Prop} {dflt : Int} {ps : Array (Int × Int)} {len : Nat} {x : Int32} {off : Int} (tgt : Nat) (hd : decode M.2.1 pc = .ok (.lookupswitch dflt ps, len)) (hp : (ps.toList.zip (ps.toList.drop 1)).all (fun (a, next) => a.1 < next.1) = true) (ho : Op.lookupswitch.offset ps.toList dflt x.toInt = off) (ht : (pc : Int) + off = (tgt : Int)) (k : kq_S M d tgt ls st μ Q) : kq_S M d pc ls (kq_I x :: st) μ Q := by
  intro R kc ks l g p e s m args below meth c H locs lc hR hC hH hz hL hV
  exact lv_lookup (tgt := tgt) hC.1 hC.2.1 hd hp ho ht (k R kc ks l g p e s m args below meth c H locs lc hR hC hH hz hL hV)
theorem kq_iret {M : kq_D} {d pc : Nat} {ls : List (Option kq_V)} {μ : kq_M} {Q : Option kq_V → kq_M → Prop} {v : Int32} (hd : decode M.2.1 pc = .ok (.ireturn, 1)) (hr : M.2.2.2 = some .int) (k : Q (some (kq_I v)) μ) : kq_S M d pc ls ([kq_I v]) μ Q := by
  intro R kc ks l g p e s m args below meth c H locs lc hR hC hH hz hL hV
  exact W.iret hC.1 hC.2.1 (hC.2.2.1.trans hr) (fun t ht hW => ⟨some (kq_I v), μ, rfl, k, by rw [ht]; exact hH, rfl, by rw [ht]; exact hz⟩) hL hd hC.2.2.2.1
theorem kq_zret {M : kq_D} {d pc : Nat} {ls : List (Option kq_V)} {μ : kq_M} {Q : Option kq_V → kq_M → Prop} {v : Int32} {ty : FieldType} (hd : decode M.2.1 pc = .ok (.ireturn, 1)) (hr : M.2.2.2 = some ty) (hn : narrow ty (.int v) = .int v) (k : Q (some (kq_I v)) μ) : kq_S M d pc ls ([kq_I v]) μ Q := by
  intro R kc ks l g p e s m args below meth c H locs lc hR hC hH hz hL hV
  exact W.zret hC.1 hC.2.1 (hC.2.2.1.trans hr) hn (fun t ht hW => ⟨some (kq_I v), μ, rfl, k, by rw [ht]; exact hH, rfl, by rw [ht]; exact hz⟩) hL hd hC.2.2.2.1
theorem kq_lret {M : kq_D} {d pc : Nat} {ls : List (Option kq_V)} {μ : kq_M} {Q : Option kq_V → kq_M → Prop} {v : Int64} (hd : decode M.2.1 pc = .ok (.lreturn, 1)) (hr : M.2.2.2 = some .long) (k : Q (some (kq_L v)) μ) : kq_S M d pc ls ([kq_L v]) μ Q := by
  intro R kc ks l g p e s m args below meth c H locs lc hR hC hH hz hL hV
  exact W.lret hC.1 hC.2.1 (hC.2.2.1.trans hr) (fun t ht hW => ⟨some (kq_L v), μ, rfl, k, by rw [ht]; exact hH, rfl, by rw [ht]; exact hz⟩) hL hd hC.2.2.2.1
theorem kq_aret {M : kq_D} {d pc : Nat} {ls : List (Option kq_V)} {μ : kq_M} {Q : Option kq_V → kq_M → Prop} {r j : Nat} {nm : String} (hd : decode M.2.1 pc = .ok (.areturn, 1)) (hr : M.2.2.2 = some (.object nm)) (h5 : j ≠ 45) (k : Q (some (kq_R r j)) μ) : kq_S M d pc ls ([kq_R r j]) μ Q := by
  intro R kc ks l g p e s m args below meth c H locs lc hR hC hH hz hL hV
  show W p l e R s m args below meth c H locs kc ks _ (F0 m pc lc [kq_tr g (kq_R r j)])
  exact W.aret hC.1 hC.2.1 (hC.2.2.1.trans hr) (Or.inl ⟨nm, rfl⟩) (Or.inr ⟨_, kq_trR g r h5⟩) (fun t ht hW => ⟨some (kq_R r j), μ, rfl, k, by rw [ht]; exact hH, rfl, by rw [ht]; exact hz⟩) hL hd hC.2.2.2.1
theorem kq_vret {M : kq_D} {d pc : Nat} {ls : List (Option kq_V)} {μ : kq_M} {Q : Option kq_V → kq_M → Prop} (hd : decode M.2.1 pc = .ok (.return_, 1)) (hr : M.2.2.2 = none) (k : Q none μ) : kq_S M d pc ls [] μ Q := by
  intro R kc ks l g p e s m args below meth c H locs lc hR hC hH hz hL hV
  exact W.vret hC.1 hC.2.1 (hC.2.2.1.trans hr) (fun t ht hW => ⟨none, μ, rfl, k, by rw [ht]; exact hH, rfl, by rw [ht]; exact hz⟩) hL hd hC.2.2.2.1
