/-! THE LAW'S ENTRY (by gen85.py; the first rows are the skeleton's) -/
/-! THE CLAIM OUT OF ONE WALK OF THE LAW'S BODY. Your part is whole_start (and what it stands on); all else here is the same for every law, but numbers. -/
def R_law : String := "KettleInquestLaw"
def lw_P (b : Addr) (xs : List Int32) (args : Array Value) (s : State) : Prop := args = #[.ref b] ∧ s.IntsAt b xs ∧ xs.length ≤ 3072 ∧ (Jvm.Cond.and given_1 narrow_1).before args s = true
def lw_Q (_ : Array Value) (s : State) (o : Outcome) (t : State) : Prop := o = .returned (some (.int 1)) ∧ Framed s o t [] 600000 7302250
def lw_Z (below : List Frame) (a : Array Value) (s : State) : State → Prop := fun t => ∃ o, t.status = .running ∧ Ended t below o ∧ lw_Q a s o t
/-- the law's own end, with 1 on the stack, nothing written that was there before, its room as the claim has it -/
theorem lw_ret {p : Program} {l : Launch} {e : Env} {s : State} {m : MethodId} {below : List Frame} {meth : Method} {c : Code} {b : Nat} (hx : p.tables.exec = Jvm.exec) (hb : c.code = code) (hr : meth.sig.returnType = ret) (hlocks : meth.locks = false) {pc : Nat} {H : Heap} {ls : Array Slot} (hdg : decode code pc = .ok (.ireturn, 1)) : W p l e room_1 s m #[Value.ref b] below meth c H [] 600000 7302250 (lw_Z below #[Value.ref b] s) (F0 m pc ls [.int 1]) := by
  intro T hT X
  obtain ⟨fs, hret, hrun, hended, hW, hframe⟩ := X.leave (v := some (.int 1)) (hlocks := hlocks) (fun h => by rw [hr] at h; cases h)
  have hmeth' : T.vm.method? m = some meth := X.method'
  refine ⟨T.setFrames fs, ?_, .returned (some (.int 1)), hrun, hended, rfl, ⟨_, rfl⟩, hW, hframe⟩
  jvm_step X.here [X.here.top, hx, hb, hdg, hmeth', hr, ret, narrow_b1]
  (try refine ⟨rfl, ?_⟩); (try refine ⟨rfl, ?_⟩)
  first | (intro acts; rw [hret _ acts rfl rfl rfl]) | rw [hret _ _ rfl rfl rfl]
  exact Steps.refl _
/-- what holds at the law's entry: the machine, the code, the tables' words (any of lw_tbl by 'hts w (by decide +kernel)'), the script of L ints xs at the cell b, what the Statement gives of the start (any of its parts by flat_of_before) -/
def lw_At (p : Program) (s : State) (m : MethodId) (meth : Method) (c : Code) (b L : Nat) (xs : Nat → Int32) : Prop :=
  p.tables.exec = Jvm.exec ∧ c.code = code ∧ meth.sig.returnType = ret ∧ c.maxLocals = 4 ∧ s.vm.findClass R_law = some m.cls ∧ (∀ w ∈ lw_tbl, w.before #[Value.ref b] s = true) ∧ va_X b L xs s s.heap ∧ b < s.heap.size ∧ meth.locks = false ∧ (Jvm.Cond.and given_1 narrow_1).before #[Value.ref b] s = true
theorem ku_f1 : ∀ i, i < 12 → Cond.exactly (.string "KettleInquest$Clerk" (kq_si i)) "java/lang/String" ∈ flatC (Jvm.Cond.and given_1 narrow_1) := by decide +kernel
theorem ku_f2 : ∀ i, i < 12 → Cond.eq (.field (.string "KettleInquest$Clerk" (kq_si i)) "java/lang/String" "coder" "B") (.int 0) ∈ flatC (Jvm.Cond.and given_1 narrow_1) := by decide +kernel
theorem ku_f3 : ∀ i, i < 12 → Cond.arrayOf (.field (.string "KettleInquest$Clerk" (kq_si i)) "java/lang/String" "value" "[B") .byte ∈ flatC (Jvm.Cond.and given_1 narrow_1) := by decide +kernel
theorem ku_f4 : ∀ i, i < 12 → Cond.eq (.length (.field (.string "KettleInquest$Clerk" (kq_si i)) "java/lang/String" "value" "[B")) (.int (Int32.ofNat (kq_sl.getD i 0))) ∈ flatC (Jvm.Cond.and given_1 narrow_1) := by decide +kernel
theorem ku_f5 : ∀ i, i < 12 → ∀ j, j < kq_sl.getD i 0 → Cond.eq (.elem (.field (.string "KettleInquest$Clerk" (kq_si i)) "java/lang/String" "value" "[B") (.int (Int32.ofNat j))) (.int ((kq_sb.getD i []).getD j 0)) ∈ flatC (Jvm.Cond.and given_1 narrow_1) := by decide +kernel
theorem ku_f6 : ∀ i, i < 12 → ∀ j, j < 12 → i ≠ j → Cond.not (Cond.eq (.string "KettleInquest$Clerk" (kq_si i)) (.string "KettleInquest$Clerk" (kq_si j))) ∈ flatC (Jvm.Cond.and given_1 narrow_1) ∨ Cond.not (Cond.eq (.string "KettleInquest$Clerk" (kq_si j)) (.string "KettleInquest$Clerk" (kq_si i))) ∈ flatC (Jvm.Cond.and given_1 narrow_1) := by decide +kernel
theorem ku_f7 : ∀ j, j < 6 → Cond.eq (.elem (.static "KettleInquest" "KIND_ABOVE" "[I") (.int (Int32.ofNat j))) (.int (kq_KA j)) ∈ flatC (Jvm.Cond.and given_1 narrow_1) := by decide +kernel
theorem ku_f7a : Cond.arrayOf (.static "KettleInquest" "KIND_ABOVE" "[I") .int ∈ flatC (Jvm.Cond.and given_1 narrow_1) := by decide +kernel
theorem ku_f7b : Cond.eq (.length (.static "KettleInquest" "KIND_ABOVE" "[I")) (.int (Int32.ofNat 6)) ∈ flatC (Jvm.Cond.and given_1 narrow_1) := by decide +kernel
theorem ku_f8 : ∀ j, j < 6 → Cond.eq (.elem (.static "KettleInquest" "DOUBT_OF_KIND" "[I") (.int (Int32.ofNat j))) (.int (kq_DK j)) ∈ flatC (Jvm.Cond.and given_1 narrow_1) := by decide +kernel
theorem ku_f8a : Cond.arrayOf (.static "KettleInquest" "DOUBT_OF_KIND" "[I") .int ∈ flatC (Jvm.Cond.and given_1 narrow_1) := by decide +kernel
theorem ku_f8b : Cond.eq (.length (.static "KettleInquest" "DOUBT_OF_KIND" "[I")) (.int (Int32.ofNat 6)) ∈ flatC (Jvm.Cond.and given_1 narrow_1) := by decide +kernel
theorem ku_f9 : Cond.eq (.static "java/lang/String" "COMPACT_STRINGS" "Z") (.int 1) ∈ flatC (Jvm.Cond.and given_1 narrow_1) := by decide +kernel
theorem ku_f10 : Cond.isRef (.static "jdk/internal/util/Preconditions" "SIOOBE_FORMATTER" "Ljava/util/function/BiFunction;") ∈ flatC (Jvm.Cond.and given_1 narrow_1) := by decide +kernel
def ku_sp : Nat → Nat := fun j => match j with
  | 0 => 467
  | 1 => 468
  | 2 => 469
  | 3 => 470
  | 4 => 471
  | 5 => 472
  | 6 => 530
  | 7 => 535
  | 8 => 540
  | 9 => 541
  | 10 => 546
  | _ => 547
theorem ku_sr : ∀ j, j < 12 → lw_tbl[ku_sp j]? = some (Cond.stringRef "KettleInquest$Clerk" (kq_si j) (kq_st j)) := by decide +kernel
theorem ku_l0 : Cond.laysStatic "KettleInquest" "KIND_ABOVE" "[I" ∈ lw_tbl := List.mem_of_getElem? (i := 281) (by decide +kernel)
theorem ku_n0 : Cond.initialized "KettleInquest" ∈ lw_tbl := List.mem_of_getElem? (i := 56) (by decide +kernel)
theorem ku_l1 : Cond.laysStatic "KettleInquest" "DOUBT_OF_KIND" "[I" ∈ lw_tbl := List.mem_of_getElem? (i := 264) (by decide +kernel)
theorem ku_n1 : Cond.initialized "KettleInquest" ∈ lw_tbl := List.mem_of_getElem? (i := 56) (by decide +kernel)
theorem ku_l2 : Cond.laysStatic "java/lang/String" "COMPACT_STRINGS" "Z" ∈ lw_tbl := List.mem_of_getElem? (i := 486) (by decide +kernel)
theorem ku_n2 : Cond.initialized "java/lang/String" ∈ lw_tbl := List.mem_of_getElem? (i := 62) (by decide +kernel)
theorem ku_l3 : Cond.laysStatic "jdk/internal/util/Preconditions" "SIOOBE_FORMATTER" "Ljava/util/function/BiFunction;" ∈ lw_tbl := List.mem_of_getElem? (i := 502) (by decide +kernel)
theorem ku_n3 : Cond.initialized "jdk/internal/util/Preconditions" ∈ lw_tbl := List.mem_of_getElem? (i := 64) (by decide +kernel)
theorem ku_kq_nwK : kq_nwK ∈ lw_tbl := List.mem_of_getElem? (i := 262) (by decide +kernel)
theorem ku_kq_nwI : kq_nwI ∈ lw_tbl := List.mem_of_getElem? (i := 298) (by decide +kernel)
theorem ku_kq_nwO : kq_nwO ∈ lw_tbl := List.mem_of_getElem? (i := 314) (by decide +kernel)
theorem ku_kq_nwD : kq_nwD ∈ lw_tbl := List.mem_of_getElem? (i := 263) (by decide +kernel)
theorem ku_kv_nwH : kv_nwH ∈ lw_tbl := List.mem_of_getElem? (i := 78) (by decide +kernel)
theorem ku_kv_nwC : kv_nwC ∈ lw_tbl := List.mem_of_getElem? (i := 136) (by decide +kernel)
theorem ku_kv_nwS : kv_nwS ∈ lw_tbl := List.mem_of_getElem? (i := 166) (by decide +kernel)
theorem ku_ao : Cond.arrayOver (.object "KettleInquest$Sheet") ∈ lw_tbl := List.mem_of_getElem? (i := 164) (by decide +kernel)
theorem ku_in0 : Cond.instantiable "KettleInquest" 7 ∈ lw_tbl := List.mem_of_getElem? (i := 69) (by decide +kernel)
theorem ku_in1 : Cond.instantiable "KettleInquest$Hall" 11 ∈ lw_tbl := List.mem_of_getElem? (i := 77) (by decide +kernel)
theorem ku_in2 : Cond.instantiable "KettleInquest$Clerk" 7 ∈ lw_tbl := List.mem_of_getElem? (i := 135) (by decide +kernel)
theorem ku_in3 : Cond.instantiable "KettleInquest$Sheet" 3 ∈ lw_tbl := List.mem_of_getElem? (i := 165) (by decide +kernel)
theorem ku_in4 : Cond.instantiable "KettleInquestModel" 20 ∈ lw_tbl := List.mem_of_getElem? (i := 639) (by decide +kernel)
theorem ku_ac_int : Cond.arrayClass .int ∈ lw_tbl := List.mem_of_getElem? (i := 133) (by decide +kernel)
theorem ku_ac_long : Cond.arrayClass .long ∈ lw_tbl := List.mem_of_getElem? (i := 185) (by decide +kernel)
set_option maxHeartbeats 4000000 in
theorem ku_start {p : Program} {s : State} {m : MethodId} {meth : Method} {c : Code} {b L : Nat} {xs : Nat → Int32} (C0 : lw_At p s m meth c b L xs) : ∃ (D : va_G) (c0 c1 c2 : ClassId) (t1 t2 : Nat) (aK aV : Nat → Nat) (F : Value), va_K D kq_cls (kv_ty c0 c1 c2) s ∧ va_AO "KettleInquest$Sheet" s ∧ va_Nw kv_nwH s ∧ va_Nw kv_nwC s ∧ va_Nw kv_nwS s ∧ ∀ ad : List Nat, kq_Wd (ku_g D c0 c1 c2 ad b t1 t2 aK aV s.heap F) (L, xs) s := by
  obtain ⟨hx, hb, hr, hml, hown, hts, hX, hbl, hlocks, hgv⟩ := C0
  have hk : ∀ w ∈ kq_tbl, w.before #[Value.ref b] s = true := fun w h => hts w (List.mem_filter.mp h).1
  have hs := flat_of_before _ hgv
  have hA : ∀ a : Nat, a < s.heap.size → ¬ (fun q : Nat => s.heap.size ≤ q) a := fun a h => Nat.not_le.mpr h
  obtain ⟨d0, i0, K0⟩ := u_known (C := "KettleInquest") (T := kq_F0) (N := 7) (n := 7) hk kq_i0 (hts _ ku_in0)
  obtain ⟨d1, i1, K1⟩ := u_known (C := "KettleInquest$Hall") (T := kq_F1) (N := 11) (n := 11) hk kq_i1 (hts _ ku_in1)
  obtain ⟨d2, i2, K2⟩ := u_known (C := "KettleInquest$Clerk") (T := kq_F2) (N := 7) (n := 7) hk kq_i2 (hts _ ku_in2)
  obtain ⟨d3, i3, K3⟩ := u_known (C := "KettleInquest$Sheet") (T := kq_F3) (N := 3) (n := 3) hk kq_i3 (hts _ ku_in3)
  obtain ⟨d4, i4, K4⟩ := u_known (C := "KettleInquestModel") (T := kq_F4) (N := 20) (n := 20) hk kq_i4 (hts _ ku_in4)
  obtain ⟨D, hDk⟩ : ∃ D : va_G, ∀ (k : Nat) (q : vw_C), kq_cls[k]? = some q → u_Kn s q.1 q.2.1 q.2.2 (D.1 k) (D.2 k) := by
    refine ⟨(fun k => match k with | 0 => d0 | 1 => d1 | 2 => d2 | 3 => d3 | _ => d4, fun k => match k with | 0 => i0 | 1 => i1 | 2 => i2 | 3 => i3 | _ => i4), ?_⟩
    intro k q hq
    match k, hq with
    | 0, hq => cases hq; exact K0
    | 1, hq => cases hq; exact K1
    | 2, hq => cases hq; exact K2
    | 3, hq => cases hq; exact K3
    | 4, hq => cases hq; exact K4
    | k + 5, hq => cases hq
  obtain ⟨c0, x0, y0, f0, g0, h0⟩ := Cond.arrayClass_spec (hts _ ku_ac_int)
  obtain ⟨c1, x1, y1, f1, g1, h1⟩ := Cond.arrayClass_spec (hts _ ku_ac_long)
  obtain ⟨y2, c2, x2, e2, -, g2, h2, f2⟩ := Cond.arrayOver_spec (hts _ ku_ao)
  have hK : va_K D kq_cls (kv_ty c0 c1 c2) s := by
    refine ⟨hDk, fun k q hq => ?_⟩
    match k, hq with
    | 0, hq => cases hq; exact ⟨fun n z => ⟨fun k h => (by cases h), x0, g0, y0, h0⟩, f0⟩
    | 1, hq => cases hq; exact ⟨fun n z => ⟨fun k h => (by cases h), x1, g1, y1, h1⟩, f1⟩
    | 2, hq => cases hq; exact ⟨fun n z => ⟨fun k h => (by cases h), x2, g2, y2, h2⟩, x2, y2, g2, h2, e2, f2⟩
    | k + 3, hq => cases hq
  obtain ⟨t1, u1, v1⟩ := va_Tof (tm := .static "KettleInquest" "KIND_ABOVE" "[I") (ty := .int) (N := 6) (f := fun j => .int (kq_KA j)) (A := fun q : Nat => s.heap.size ≤ q) (by decide) (hs _ ku_f7a) (va_eqt (hs _ ku_f7b)) (fun j hj => va_eqt (hs _ (ku_f7 j hj))) hA
  obtain ⟨t2, u2, v2⟩ := va_Tof (tm := .static "KettleInquest" "DOUBT_OF_KIND" "[I") (ty := .int) (N := 6) (f := fun j => .int (kq_DK j)) (A := fun q : Nat => s.heap.size ≤ q) (by decide) (hs _ ku_f8a) (va_eqt (hs _ ku_f8b)) (fun j hj => va_eqt (hs _ (ku_f8 j hj))) hA
  have z1 := va_Zof (A := fun q : Nat => s.heap.size ≤ q) (hts _ ku_l0) (hts _ ku_n0) u1 hA
  have z2 := va_Zof (A := fun q : Nat => s.heap.size ≤ q) (hts _ ku_l1) (hts _ ku_n1) u2 hA
  have z3 := va_Zof (A := fun q : Nat => s.heap.size ≤ q) (hts _ ku_l2) (hts _ ku_n2) (va_eqt (hs _ ku_f9)) hA
  obtain ⟨aK, aV, sS, sE⟩ := vk_Sof (N := 12) (tm := fun i => .string "KettleInquest$Clerk" (kq_si i)) (len := kq_sl) (byt := kq_sb) (A := fun q : Nat => s.heap.size ≤ q) kq_sl_31 (fun i hi => hs _ (ku_f1 i hi)) (fun i hi => hs _ (ku_f2 i hi)) (fun i hi => hs _ (ku_f3 i hi)) (fun i hi => hs _ (ku_f4 i hi)) (fun i hi j hj => hs _ (ku_f5 i hi j hj)) (fun i j hi hj hne => (ku_f6 i hi j hj hne).imp (hs _) (hs _)) hA
  have sR : ∀ j, j < 12 → vk_R "KettleInquest$Clerk" (kq_si j) (kq_st j) (aK j) s := fun j hj => vk_R.of (hts _ (List.mem_of_getElem? (ku_sr j hj))) (sE j hj)
  obtain ⟨F, z4, hF⟩ : ∃ F : Value, va_Z "jdk/internal/util/Preconditions" "SIOOBE_FORMATTER" "Ljava/util/function/BiFunction;" F (fun q : Nat => s.heap.size ≤ q) s s.heap ∧ (F = .null ∨ ∃ t, F = .ref t) := by
    rcases va_Zqof (A := fun q : Nat => s.heap.size ≤ q) (hts _ ku_l3) (hts _ ku_n3) (hs _ ku_f10) hA with h | ⟨t, h⟩
    · exact ⟨.null, h, Or.inl rfl⟩
    · exact ⟨.ref t, h, Or.inr ⟨t, rfl⟩⟩
  exact ⟨D, c0, c1, c2, t1, t2, aK, aV, F, hK, va_AO.of (hts _ ku_ao), va_Nw.of rfl (hts _ ku_kv_nwH), va_Nw.of rfl (hts _ ku_kv_nwC), va_Nw.of rfl (hts _ ku_kv_nwS), fun ad => ⟨hK, ⟨hX, hbl⟩, ⟨z1, v1⟩, ⟨z2, v2⟩, sS, sR, z3, ⟨z4, hF⟩, va_Nw.of rfl (hts _ ku_kq_nwK), va_Nw.of rfl (hts _ ku_kq_nwI), va_Nw.of rfl (hts _ ku_kq_nwO), va_Nw.of rfl (hts _ ku_kq_nwD)⟩⟩
theorem kl_start {L : Nat} {xs : Nat → Int32} (hL : L ≤ 3072) : kq_S km_law 12 16 [some (kq_R 0 40), some (kq_R 0 0), some (kq_R 0 20), none] [] (ku_m L xs) kl_Q := by
  have h := kl_loop hL (L + 1) 0 (ku_m L xs) ku_z (by omega) (by omega) ku_I
  rw [nI_0] at h
  refine ks_law_16 <| ks_law_17 rfl ?_
  exact h
theorem ku_end {p : Program} {l : Launch} {e : Env} {R : Room} {s : State} {m : MethodId} {args : Array Value} {below : List Frame} {meth : Method} {c : Code} {H : Heap} {locs : List Loc} {kc ks : Nat} {g : kq_G} {S : Nat × (Nat → Int32)} {f : JFrame} (hg : kq_gH g = s.heap) (hk : kc ≤ 600000) (hn : ks ≤ 7302250) (h : W p l e R s m args below meth c H locs kc ks (MQ below (kq_Qc g S kl_Q) args s kc ks (kq_A g)) f) : W p l e R s m args below meth c H locs kc ks (lw_Z below args s) f := by
  intro T hT X
  obtain ⟨t, a1, o, r1, r2, ⟨r, μ', h1, h2, -, -, -⟩, L, ⟨f1, f2, f3⟩, hL⟩ := h T hT X
  have h2' : r = some (kq_I 1) := h2
  subst h2'
  refine ⟨t, a1, o, r1, r2, h1, f1, f2, f3.weaken (fun q hq hlt => absurd (hL q hq) ?_) hk hn⟩
  show ¬ (kq_gH g).size ≤ q.base
  rw [hg]
  exact Nat.not_le.mpr hlt
