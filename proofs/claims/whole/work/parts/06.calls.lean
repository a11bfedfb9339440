/-! CALLS -/
/-- whatever the world: the cell (r, i) is an object of the class C -/
def kq_rc (C : String) (r i : Nat) : Prop := i ≠ 45 ∧ ∀ (M : kq_D) (g : kq_G) (S : Nat × (Nat → Int32)) (p : Program) (s : State) (m : MethodId) (args : Array Value) (meth : Method) (c : Code) (μ : kq_M) (H : Heap) (locs : List Loc), kq_C M g S p s m args meth c → kq_Hd g μ H → s.heap.size ≤ H.size → (∀ q ∈ locs, kq_A g q.base) → ∃ cell : Cell, H[kq_gd g r i]? = some cell ∧ cell.vm.isStatics = false ∧ s.vm.findClass C = some cell.cls
theorem kq_rc_obj {r : Nat} (i : Nat) {C : String} (hi : kq_ck i = 0 ∧ kq_ci i < 5 ∧ i ≠ 45 ∧ kq_cn (kq_ci i) = C) (hok : kq_ok i r = true) : kq_rc C r i := by
  refine ⟨hi.2.2.1, fun M g S p s m args meth c μ H locs hC hH _ _ => ?_⟩
  obtain ⟨cell, q1, q2, q3, -⟩ := kq_at0 (hH.1 r i hok) hi.1
  refine ⟨cell, q1, by rw [q3]; rfl, ?_⟩
  rw [q2, ← hi.2.2.2]
  exact (hC.D.K hi.2.1).2.1
theorem kq_rc_txt {r : Nat} (hr : r < 12) : kq_rc "java/lang/String" r 43 := by
  refine ⟨by decide, fun M g S p s m args meth c μ H locs hC hH hz hL => ?_⟩
  exact vk_recv (adK := fun j => kq_gd g j 43) (i := r) (hC.D.2.2.2.2.1.kept hC.old) hr (hC.S hH hz hL)
/-- n arguments, few locals, no handle -/
def kq_sg (M : kq_D) (n : Nat) : Prop := (M.1.cls ≠ "java/lang/invoke/MethodHandle" ∧ M.1.cls ≠ "java/lang/invoke/VarHandle" ∧ (parseMethodDescriptor M.1.desc).map (fun d => d.parameters.length) = some n) ∧ M.2.2.1 + 19 ≤ 38
theorem kq_goodws (M' : kq_D) (h : Cond.code M'.1 M'.2.1 M'.2.2.1 M'.2.2.2 ∈ kq_tbl) : GoodIn kq_tbl (kq_ws M') := by
  intro w hw
  rcases List.mem_cons.mp hw with rfl | hw
  · exact ⟨h, kq_good _ h⟩
  · exact ⟨hw, kq_good w hw⟩
theorem kq_room {M : kq_D} {R : Room} {kc ks : Nat} (d : Nat) (h : M.2.2.1 + 19 ≤ 38) (hR : d + 1 ≤ R.frames ∧ 38 * (d + 1) ≤ R.locals ∧ kc ≤ R.cells ∧ ks ≤ R.slots) : (kq_rm d).frames + 1 ≤ R.frames ∧ 8 + (M.2.2.1 + 11) + (kq_rm d).locals ≤ R.locals := by
  refine ⟨hR.1, ?_⟩
  show 8 + (M.2.2.1 + 11) + 38 * d ≤ R.locals
  have := hR.2.1
  omega
/-- a run of a callee, taken on -/
theorem kq_goes {M : kq_D} {d pc : Nat} {ls : List (Option kq_V)} {st : List kq_V} {μ : kq_M} {Q : Option kq_V → kq_M → Prop} {R : Room} {kc ks : Nat} {l : Launch} {g : kq_G} {p : Program} {e : Env} {s : State} {m : MethodId} {args : Array Value} {below : List Frame} {meth : Method} {c : Code} {H : Heap} {locs : List Loc} {lc : Array Slot} {st0 : List Value} {a : Array Value}
    (hR : d + 1 ≤ R.frames ∧ 38 * (d + 1) ≤ R.locals ∧ kc ≤ R.cells ∧ ks ≤ R.slots) (hC : kq_C M g (kq_sc μ) p s m args meth c) (hz : s.heap.size ≤ H.size) (hL : ∀ q ∈ locs, kq_A g q.base) (hV : kq_lv g ls lc M.2.2.1)
    (hr : va_Run p l e R s m args below meth c H locs kc ks 0 0 (F0 m pc lc st0) (st.map (kq_tr g)) (kq_Qc g (kq_sc μ) (kq_K M (d + 1) (pc + 3) ls st Q) a) (kq_A g)) :
    W p l e R s m args below meth c H locs kc ks (MQ below (kq_Qc g (kq_sc μ) Q) args s kc ks (kq_A g)) (F0 m pc lc st0) := by
  intro T hT X
  obtain ⟨v, st₀, t, T', L, h0, X', hL', e1, e2, ⟨r, μ', hv, hq, hH', hs, hz'⟩, st'⟩ := hr T hT X
  have hloc : ∀ q ∈ locs ++ L, kq_A g q.base := fun q hq => by
    rcases List.mem_append.mp hq with h | h
    · exact hL q h
    · exact hL' q h
  have hv' := Outcome.returned.inj hv
  subst hv'
  have hz2 : s.heap.size ≤ T'.heap.size := by rw [e1]; exact Nat.le_trans hz (by rw [← h0]; exact hz')
  rw [← e1] at hH'
  have hC' : kq_C M g (kq_sc μ') p s m args meth c := by rw [hs]; exact hC
  cases r with
  | none =>
    have k1 := hq R kc ks l g p e s m args below meth c T'.heap (locs ++ L) lc hR hC' hH' hz2 hloc hV T' rfl X'
    rw [hs] at k1
    obtain ⟨t2, a1, b1⟩ := k1
    exact ⟨t2, st' t2 a1, b1⟩
  | some w =>
    have k1 := hq R kc ks l g p e s m args below meth c T'.heap (locs ++ L) lc hR hC' hH' hz2 hloc hV T' rfl X'
    rw [hs] at k1
    obtain ⟨t2, a1, b1⟩ := k1
    exact ⟨t2, st' t2 a1, b1⟩
section KC
variable {M M' : kq_D} {d pc : Nat} {ls : List (Option kq_V)} {st : List kq_V} {μ : kq_M} {Q : Option kq_V → kq_M → Prop}
theorem kq_callV {idx r i : Nat} (as : List kq_V) (hd : decode M.2.1 pc = .ok (.invokevirtual idx, 3)) (hw : Cond.methodLink M.1.cls idx M'.1 ∈ kq_tbl) (hM : kq_wV M') (hg : kq_sg M' as.length) (hr : kq_rc M'.1.cls r i) (hst : (st.map kq_cat).sum ≤ 8) (k : kq_Call d M' (kq_R r i :: as) μ (kq_K M (d + 1) (pc + 3) ls st Q)) : kq_S M (d + 1) pc ls (as.reverse ++ kq_R r i :: st) μ Q := by
  intro R kc ks l g p e s m args below meth c H locs lc hR hC hH hz hL hV
  refine kq_goes (st := st) hR hC hz hL hV (a := (Value.ref (kq_gd g r i) :: as.map (kq_tr g)).toArray) ?_
  have hgw := kq_goodws M' hM.1
  have cw : CallW R s args M.1.cls M'.1.cls idx M'.1 M'.2.1 M'.2.2.1 M'.2.2.2 (kq_ws M') (kq_rm d) 0 0 as.length :=
    ⟨callB_of (Ts := kq_tbl) as.length hC.2.2.2.2.2.2.1 hgw rfl rfl rfl (hC.w hM.2.1) (hC.w hw) hg.1 (kq_room d hg.2 hR), hC.w hM.2.2.1, hC.w hM.2.2.2⟩
  have hp : PreV s H M'.1.cls (kq_gd g r i) (kq_Pc g (kq_R r i :: as) μ) (as.map (kq_tr g)) := by
    refine ⟨kq_Pc.blind _ _ _, hr.2 M g _ p s m args meth c μ H locs hC hH hz hL, fun U hU hW => ⟨?_, by rw [hU]; exact hH, hC.D.warm hW, hC.2.2.2.2.2.2.2.2.1⟩⟩
    rw [List.map_cons, kq_trR g r hr.1]
  refine va_runV (Ts := kq_tbl) ⟨hC.1, hC.2.1, hC.2.2.2.2.1, hC.2.2.2.2.2.1, hC.2.2.2.2.2.2.1⟩ (k l g) cw hp rfl (by rw [List.length_map]) hV.1 ?_ ?_ hd ⟨hR.2.2.1, hR.2.2.2⟩
  · rw [List.map_append, List.map_reverse, List.map_cons, kq_trR g r hr.1]
  · show 2 * 0 + _ ≤ 8
    rw [kq_map_cat hC.D.gF]
    omega
theorem kq_callS {idx : Nat} (as : List kq_V) (hd : decode M.2.1 pc = .ok (.invokestatic idx, 3)) (hw : Cond.methodLink M.1.cls idx M'.1 ∈ kq_tbl) (hM : kq_wS M') (hg : kq_sg M' as.length) (hst : (st.map kq_cat).sum ≤ 8) (k : kq_Call d M' as μ (kq_K M (d + 1) (pc + 3) ls st Q)) : kq_S M (d + 1) pc ls (as.reverse ++ st) μ Q := by
  intro R kc ks l g p e s m args below meth c H locs lc hR hC hH hz hL hV
  refine kq_goes (st := st) hR hC hz hL hV (a := (as.map (kq_tr g)).toArray) ?_
  have hgw := kq_goodws M' hM.1
  have cw : CallB R s args M.1.cls idx M'.1 M'.2.1 M'.2.2.1 M'.2.2.2 (kq_ws M') (kq_rm d) 0 0 as.length ∧ (Cond.static M'.1).before args s = true :=
    ⟨callB_of (Ts := kq_tbl) as.length hC.2.2.2.2.2.2.1 hgw rfl rfl rfl (hC.w hM.2.1) (hC.w hw) hg.1 (kq_room d hg.2 hR), hC.w hM.2.2⟩
  have hp : PreS s H (kq_Pc g as μ) (as.map (kq_tr g)) := ⟨kq_Pc.blind _ _ _, fun U hU hW => ⟨rfl, by rw [hU]; exact hH, hC.D.warm hW, hC.2.2.2.2.2.2.2.2.1⟩⟩
  refine va_runS (Ts := kq_tbl) ⟨hC.1, hC.2.1, hC.2.2.2.2.1, hC.2.2.2.2.2.1, hC.2.2.2.2.2.2.1⟩ (k l g) cw hp rfl (by rw [List.length_map]) hV.1 ?_ ?_ hd ⟨hR.2.2.1, hR.2.2.2⟩
  · rw [List.map_append, List.map_reverse]
  · show 2 * 0 + _ ≤ 8
    rw [kq_map_cat hC.D.gF]
    omega
/-- a private static method of a nest mate: the words of the tables, wherever they hold -/
def kq_nw (own : String) (idx : Nat) (y : MethodName) : Prop := ∀ (g : kq_G) (S : Nat × (Nat → Int32)) (s : State), kq_Wd g S s → va_Nw (.methodLinkNest own idx y "KettleInquest") s
theorem kq_callN {idx : Nat} (as : List kq_V) (hd : decode M.2.1 pc = .ok (.invokestatic idx, 3)) (hw : kq_nw M.1.cls idx M'.1) (hM : kq_wS M') (hg : kq_sg M' as.length) (hst : (st.map kq_cat).sum ≤ 8) (k : kq_Call d M' as μ (kq_K M (d + 1) (pc + 3) ls st Q)) : kq_S M (d + 1) pc ls (as.reverse ++ st) μ Q := by
  intro R kc ks l g p e s m args below meth c H locs lc hR hC hH hz hL hV
  refine kq_goes (st := st) hR hC hz hL hV (a := (as.map (kq_tr g)).toArray) ?_
  have hgw := kq_goodws M' hM.1
  have cw : va_CN R s args M.1.cls idx M'.1 "KettleInquest" M'.2.1 M'.2.2.1 M'.2.2.2 (kq_ws M') (kq_rm d) 0 0 as.length ∧ (Cond.static M'.1).before args s = true ∧ True :=
    ⟨va_cnB (Ts := kq_tbl) as.length hC.2.2.2.2.2.2.1 hgw rfl rfl rfl (hw g _ s hC.D) (hC.w hM.2.1) hg.1 (kq_room d hg.2 hR), hC.w hM.2.2, trivial⟩
  have hp : PreS s H (kq_Pc g as μ) (as.map (kq_tr g)) := ⟨kq_Pc.blind _ _ _, fun U hU hW => ⟨rfl, by rw [hU]; exact hH, hC.D.warm hW, hC.2.2.2.2.2.2.2.2.1⟩⟩
  refine va_runSN (Ts := kq_tbl) ⟨hC.1, hC.2.1, hC.2.2.2.2.1, hC.2.2.2.2.2.1, hC.2.2.2.2.2.2.1⟩ (k l g) cw hp rfl (by rw [List.length_map]) hV.1 ?_ ?_ hd ⟨hR.2.2.1, hR.2.2.2⟩
  · rw [List.map_append, List.map_reverse]
  · show 2 * 0 + _ ≤ 8
    rw [kq_map_cat hC.D.gF]
    omega
theorem kq_nwK_ok : kq_nw "KettleInquest$Hall" 50 ⟨"KettleInquest", "isKind", "(I)Z"⟩ := fun _ _ _ h => h.2.2.2.2.2.2.2.2.1
theorem kq_nwI_ok : kq_nw "KettleInquest$Hall" 76 ⟨"KettleInquest", "isIn", "(II)Z"⟩ := fun _ _ _ h => h.2.2.2.2.2.2.2.2.2.1
theorem kq_nwO_ok : kq_nw "KettleInquest$Hall" 89 ⟨"KettleInquest", "isOfKind", "(II)Z"⟩ := fun _ _ _ h => h.2.2.2.2.2.2.2.2.2.2.1
theorem kq_mmax {idx : Nat} {x y : Int32} (hd : decode M.2.1 pc = .ok (.invokestatic idx, 3)) (hw : Cond.methodLink M.1.cls idx Lib.Math.max.name ∈ kq_tbl) (hst : (st.map kq_cat).sum ≤ 8) (k : kq_S M (d + 1) (pc + 3) ls (kq_I (if x < y then y else x) :: st) μ Q) : kq_S M (d + 1) pc ls (kq_I y :: kq_I x :: st) μ Q := by
  intro R kc ks l g p e s m args below meth c H locs lc hR hC hH hz hL hV
  have hM : kq_wS km_jM_max := kw_jM_max
  refine va_mmax hC.1 hC.2.1 (hC.2.2.2.2.1.trans hV.1.symm) hC.2.2.2.2.2.1 (hC.w hw) (hC.w hM.2.2) (hC.w hM.2.1) (hC.w hM.1) (Nat.le_trans (Nat.le_add_left 1 d) hR.1) ?_ hR.2.2.1 hR.2.2.2 hd (k R kc ks l g p e s m args below meth c H locs lc hR hC hH hz hL hV)
  rw [kq_map_cat hC.D.gF]
  have := hR.2.1
  omega
theorem kq_mmin {idx : Nat} {x y : Int32} (hd : decode M.2.1 pc = .ok (.invokestatic idx, 3)) (hw : Cond.methodLink M.1.cls idx Lib.Math.min.name ∈ kq_tbl) (hst : (st.map kq_cat).sum ≤ 8) (k : kq_S M (d + 1) (pc + 3) ls (kq_I (if y < x then y else x) :: st) μ Q) : kq_S M (d + 1) pc ls (kq_I y :: kq_I x :: st) μ Q := by
  intro R kc ks l g p e s m args below meth c H locs lc hR hC hH hz hL hV
  have hM : kq_wS km_jM_min := kw_jM_min
  refine va_mmin hC.1 hC.2.1 (hC.2.2.2.2.1.trans hV.1.symm) hC.2.2.2.2.2.1 (hC.w hw) (hC.w hM.2.2) (hC.w hM.2.1) (hC.w hM.1) (Nat.le_trans (Nat.le_add_left 1 d) hR.1) ?_ hR.2.2.1 hR.2.2.2 hd (k R kc ks l g p e s m args below meth c H locs lc hR hC hH hz hL hV)
  rw [kq_map_cat hC.D.gF]
  have := hR.2.1
  omega
/-- System.arraycopy between rows of longs -/
theorem kq_copy {idx r r' : Nat} {xs xd xn : Int32} (i i' sp dp n : Nat) (hd : decode M.2.1 pc = .ok (.invokestatic idx, 3)) (hw : Cond.methodLink M.1.cls idx arraycopyName ∈ kq_tbl) (hw2 : Cond.native arraycopyName ∈ kq_tbl ∧ Cond.static arraycopyName ∈ kq_tbl ∧ Cond.initialized "java/lang/System" ∈ kq_tbl) (hi : kq_ck i = 2 ∧ i ≠ 45) (hi' : kq_ck i' = 2 ∧ i' ≠ 45) (hok : kq_ok i r = true) (hok' : kq_ok i' r' = true) (h1 : xs = nI sp) (h2 : xd = nI dp) (h3 : xn = nI n) (h4 : sp + n ≤ kq_len i) (h5 : dp + n ≤ kq_len i') (hst : (st.map kq_cat).sum ≤ 8)
    (kk : kq_S M (d + 1) (pc + 3) ls st (kq_cL μ r i sp r' i' dp n) Q) : kq_S M (d + 1) pc ls (kq_I xn :: kq_I xd :: kq_R r' i' :: kq_I xs :: kq_R r i :: st) μ Q := by
  intro R kc ks l g p e s m args below meth c H locs lc hR hC hH hz hL hV
  simp only [List.map_cons]
  rw [kq_trR g r hi.2, kq_trR g r' hi'.2]
  have hl1 := kq_lenlt i
  have hl2 := kq_lenlt i'
  have c1 : xs.toNatClampNeg = sp := by rw [h1]; exact nI_clamp (by omega)
  have c2 : xd.toNatClampNeg = dp := by rw [h2]; exact nI_clamp (by omega)
  have c3 : xn.toNatClampNeg = n := by rw [h3]; exact nI_clamp (by omega)
  have n1 : ¬ xs < 0 := by rw [h1]; exact nI_pos (by omega)
  have n2 : ¬ xd < 0 := by rw [h2]; exact nI_pos (by omega)
  have n3 : ¬ xn < 0 := by rw [h3]; exact nI_pos (by omega)
  have t1 : xs.toInt = (sp : Int) := by rw [h1]; exact nI_toInt (by omega)
  have t2 : xd.toInt = (dp : Int) := by rw [h2]; exact nI_toInt (by omega)
  have t3 : xn.toInt = (n : Int) := by rw [h3]; exact nI_toInt (by omega)
  have hc0 := kq_at2 (hH.1 r i hok) hi.1
  have hc1 := kq_at2 (hH.1 r' i' hok') hi'.1
  intro T hT X
  obtain ⟨-, k0, hk0, cm0, hkk0⟩ := hC.D.aL (kq_len i) (fun j => .long (kq_rL μ r i j))
  obtain ⟨-, k1, hk1, cm1, hkk1⟩ := hC.D.aL (kq_len i') (fun j => .long (kq_rL μ r' i' j))
  obtain ⟨vm', X', step⟩ := X.arraycopy hC.1 hC.2.2.2.2.2.1 (hC.w hw) (hC.w hw2.1) (hC.w hw2.2.1) (hC.w hw2.2.2) (src := kq_gd g r i) (dst := kq_gd g r' i') (cs := arrV (kq_gA g 1) (kq_len i) (fun j => .long (kq_rL μ r i j))) (cd := arrV (kq_gA g 1) (kq_len i') (fun j => .long (kq_rL μ r' i' j))) (srcPos := xs) (destPos := xd) (n := xn) (by rw [hT]; exact hc0) (by rw [hT]; exact hc1)
    (fun _ h => by cases h) (fun _ h => by cases h) (fun h => by cases h) (fun h => by cases h) hk0 hk1 hkk0 hkk1 (by simp [refKind]) n1 n2 n3
    (by rw [t1, t3, arrV_size]; omega)
    (by rw [t2, t3, arrV_size]; omega)
    (fun vm₁ _ j hj => by
      rw [c3] at hj
      have e : (arrV (kq_gA g 1) (kq_len i) (fun j => .long (kq_rL μ r i j))).slots.getD (xs.toNatClampNeg + j) .null = .long (kq_rL μ r i (xs.toNatClampNeg + j)) := by
        rw [Array.getD_eq_getD_getElem?, arrV_read _ _ (by rw [c1]; omega)]
        rfl
      refine ⟨?_, ?_⟩
      · rw [e]; rfl
      · rw [e]; exact trivial)
    (g := F0 m pc lc (.int xn :: .int xd :: .ref (kq_gd g r' i') :: .int xs :: .ref (kq_gd g r i) :: st.map (kq_tr g))) rfl (by rw [hC.2.2.2.2.1]; exact hV.1) (rest := st.map (kq_tr g)) rfl (by rw [hC.2.1]; exact hd) (Nat.le_trans (Nat.le_add_left 1 d) hR.1) (by
      rw [kq_map_cat hC.D.gF]
      show 2 * 0 + (st.map kq_cat).sum + _ ≤ R.locals
      have hR2 := hR.2.1
      have hnf : nativeFrameWords "java/lang/System" "arraycopy" 5 + 11 ≤ 30 := by decide
      omega)
  have e1 : copied (arrV (kq_gA g 1) (kq_len i) (fun j => .long (kq_rL μ r i j))) (arrV (kq_gA g 1) (kq_len i') (fun j => .long (kq_rL μ r' i' j))) xs xd xn = arrV (kq_gA g 1) (kq_len i') (fun j => .long (va_cpy (fun j => kq_rL μ r i j) (fun j => kq_rL μ r' i' j) xs.toNatClampNeg xd.toNatClampNeg xn.toNatClampNeg j)) := va_copied (fun z => .long z) (kq_gA g 1) (kq_gA g 1) (fun j => kq_rL μ r i j) (fun j => kq_rL μ r' i' j) (by rw [c1, c3]; exact h4)
  rw [e1] at X' step
  have hl : kq_gd g r' i' < H.size := (Array.getElem?_eq_some_iff.mp hc1).1
  have hcell : (fun j => Value.long (va_cpy (fun j => kq_rL μ r i j) (fun j => kq_rL μ r' i' j) xs.toNatClampNeg xd.toNatClampNeg xn.toNatClampNeg j)) = fun j => .long (kq_rL (kq_cL μ r i sp r' i' dp n) r' i' j) := by
    funext j
    rw [kq_rL_cL, c1, c2, c3]
    unfold va_cpy
    simp
  rw [hcell] at X' step
  have hheap : ((T.setVm vm').setCell (kq_gd g r' i') (arrV (kq_gA g 1) (kq_len i') (fun j => .long (kq_rL (kq_cL μ r i sp r' i' dp n) r' i' j)))).heap = H.setIfInBounds (kq_gd g r' i') (arrV (kq_gA g 1) (kq_len i') (fun j => .long (kq_rL (kq_cL μ r i sp r' i' dp n) r' i' j))) := by rw [← hT]; rfl
  have oq : ∀ q : Nat, q ≠ kq_gd g r' i' → (H.setIfInBounds (kq_gd g r' i') (arrV (kq_gA g 1) (kq_len i') (fun j => .long (kq_rL (kq_cL μ r i sp r' i' dp n) r' i' j))))[q]? = H[q]? := fun q hq => by simp [Array.getElem?_setIfInBounds, Ne.symm hq]
  have hz1 : (H.setIfInBounds (kq_gd g r' i') (arrV (kq_gA g 1) (kq_len i') (fun j => .long (kq_rL (kq_cL μ r i sp r' i' dp n) r' i' j)))).size = H.size := by simp
  have hH' : kq_Hd g (kq_cL μ r i sp r' i' dp n) (H.setIfInBounds (kq_gd g r' i') (arrV (kq_gA g 1) (kq_len i') (fun j => .long (kq_rL (kq_cL μ r i sp r' i' dp n) r' i' j)))) := by
    refine kq_Hd.put (μ := μ) hC.2.2.2.2.2.2.2.2.1 hH hok' hz1 oq ?_ (fun a b k' h => rfl) (fun a b k' h => ?_)
    · unfold kq_at
      rw [hi'.1]
      show (H.setIfInBounds _ _)[kq_gd g r' i']? = some _
      simp [Array.getElem?_setIfInBounds, hl]
    · rw [kq_rL_cL, if_neg (fun z => h ⟨z.1, z.2.1⟩)]
  obtain ⟨t, a1, b1⟩ := kk R kc ks l g p e s m args below meth c _ _ lc hR hC hH' (Nat.le_trans hz (Nat.le_of_eq hz1.symm)) (fun q hq => by
      rcases List.mem_append.mp hq with h | h
      · exact hL q h
      · obtain ⟨z, -, hz⟩ := List.mem_map.mp h
        rw [← hz]
        exact hC.2.2.2.2.2.2.2.2.1.2 r' i' hok') hV _ hheap X'
  exact ⟨t, step t a1, b1⟩
end KC
