/-! AN ABSTRACT MACHINE over one fixed memory: values, memory, what a state of the machine holds of it -/
abbrev kq_V : Type := Int32 ⊕ Int64 ⊕ (Nat × Nat)
abbrev kq_I (x : Int32) : kq_V := Sum.inl x
abbrev kq_L (x : Int64) : kq_V := Sum.inr (Sum.inl x)
abbrev kq_R (r i : Nat) : kq_V := Sum.inr (Sum.inr (r, i))
abbrev kq_M : Type := (Nat → Nat → Nat → Int32) × (Nat → Nat → Nat → Int64) × (Nat × (Nat → Int32))
def kq_rI (μ : kq_M) (r i k : Nat) : Int32 := μ.1 r i k
def kq_rL (μ : kq_M) (r i k : Nat) : Int64 := μ.2.1 r i k
def kq_sc (μ : kq_M) : Nat × (Nat → Int32) := μ.2.2
def kq_wI (μ : kq_M) (r i k : Nat) (v : Int32) : kq_M := (fun a b c => if a = r ∧ b = i ∧ c = k then v else μ.1 a b c, μ.2)
def kq_wL (μ : kq_M) (r i k : Nat) (v : Int64) : kq_M := (μ.1, fun a b c => if a = r ∧ b = i ∧ c = k then v else μ.2.1 a b c, μ.2.2)
/-- numbers of a long row come to another (or the same), as they all were -/
def kq_cL (μ : kq_M) (r i sp r' i' dp n : Nat) : kq_M := (μ.1, fun a b c => if a = r' ∧ b = i' ∧ dp ≤ c ∧ c < dp + n then μ.2.1 r i (sp + (c - dp)) else μ.2.1 a b c, μ.2.2)
theorem kq_rI_wI (μ : kq_M) (r i k : Nat) (v : Int32) (a b c : Nat) : kq_rI (kq_wI μ r i k v) a b c = if a = r ∧ b = i ∧ c = k then v else kq_rI μ a b c := rfl
theorem kq_rI_wL (μ : kq_M) (r i k : Nat) (v : Int64) (a b c : Nat) : kq_rI (kq_wL μ r i k v) a b c = kq_rI μ a b c := rfl
theorem kq_rL_wI (μ : kq_M) (r i k : Nat) (v : Int32) (a b c : Nat) : kq_rL (kq_wI μ r i k v) a b c = kq_rL μ a b c := rfl
theorem kq_rL_wL (μ : kq_M) (r i k : Nat) (v : Int64) (a b c : Nat) : kq_rL (kq_wL μ r i k v) a b c = if a = r ∧ b = i ∧ c = k then v else kq_rL μ a b c := rfl
theorem kq_rI_cL (μ : kq_M) (r i sp r' i' dp n a b c : Nat) : kq_rI (kq_cL μ r i sp r' i' dp n) a b c = kq_rI μ a b c := rfl
theorem kq_rL_cL (μ : kq_M) (r i sp r' i' dp n a b c : Nat) : kq_rL (kq_cL μ r i sp r' i' dp n) a b c = if a = r' ∧ b = i' ∧ dp ≤ c ∧ c < dp + n then kq_rL μ r i (sp + (c - dp)) else kq_rL μ a b c := rfl
theorem kq_sc_wI (μ : kq_M) (r i k : Nat) (v : Int32) : kq_sc (kq_wI μ r i k v) = kq_sc μ := rfl
theorem kq_sc_wL (μ : kq_M) (r i k : Nat) (v : Int64) : kq_sc (kq_wL μ r i k v) = kq_sc μ := rfl
theorem kq_sc_cL (μ : kq_M) (r i sp r' i' dp n : Nat) : kq_sc (kq_cL μ r i sp r' i' dp n) = kq_sc μ := rfl
/-- where all stands: classes and slots, array classes, addresses, the heap at the law's start, a static that is only carried -/
abbrev kq_G : Type := va_G × (Nat → ClassId) × (Nat → Nat → Nat) × Heap × Value
def kq_gD (g : kq_G) : va_G := g.1
def kq_gA (g : kq_G) : Nat → ClassId := g.2.1
def kq_gd (g : kq_G) : Nat → Nat → Nat := g.2.2.1
def kq_gH (g : kq_G) : Heap := g.2.2.2.1
def kq_gF (g : kq_G) : Value := g.2.2.2.2
def kq_A (g : kq_G) : Nat → Prop := fun q => (kq_gH g).size ≤ q
def kq_tr (g : kq_G) : kq_V → Value
  | .inl x => .int x
  | .inr (.inl x) => .long x
  | .inr (.inr (r, i)) => if i = 45 then kq_gF g else .ref (kq_gd g r i)
def kq_cat : kq_V → Nat
  | .inr (.inl _) => 2
  | _ => 1
theorem kq_trR (g : kq_G) (r : Nat) {i : Nat} (h : i ≠ 45) : kq_tr g (kq_R r i) = .ref (kq_gd g r i) := by
  show (if i = 45 then kq_gF g else .ref (kq_gd g r i)) = _
  rw [if_neg h]
/-- what a field holds -/
def kq_val (g : kq_G) (μ : kq_M) (r i k : Nat) : Value := match kq_fk i k with
  | 0 => .int (kq_rI μ r i k)
  | 1 => .long (kq_rL μ r i k)
  | _ => .ref (kq_gd g (kq_tg r i k).1 (kq_tg r i k).2)
def kq_av (μ : kq_M) (r i k : Nat) : kq_V := match kq_fk i k with
  | 0 => kq_I (kq_rI μ r i k)
  | 1 => kq_L (kq_rL μ r i k)
  | _ => kq_R (kq_tg r i k).1 (kq_tg r i k).2
theorem kq_tr_av (g : kq_G) (μ : kq_M) (r i k : Nat) (h : (kq_tg r i k).2 ≠ 45) : kq_tr g (kq_av μ r i k) = kq_val g μ r i k := by
  unfold kq_av kq_val
  split
  · rfl
  · rfl
  · exact kq_trR g _ h
def kq_at (g : kq_G) (μ : kq_M) (r i : Nat) (H : Heap) : Prop := match kq_ck i with
  | 0 => t_OB (kq_gd g r i) ((kq_gD g).1 (kq_ci i)) (kq_nF (kq_ci i)) ((kq_gD g).2 (kq_ci i)) H (kq_val g μ r i)
  | 1 => H[kq_gd g r i]? = some (arrV (kq_gA g 0) (kq_len i) (fun j => .int (kq_rI μ r i j)))
  | 2 => H[kq_gd g r i]? = some (arrV (kq_gA g 1) (kq_len i) (fun j => .long (kq_rL μ r i j)))
  | _ => H[kq_gd g r i]? = some (arrV (kq_gA g 2) (kq_len i) (fun j => .ref (kq_gd g j 8)))
theorem kq_at.keep {g : kq_G} {μ μ' : kq_M} {r i : Nat} {H H' : Heap} (h : kq_at g μ r i H) (hq : H'[kq_gd g r i]? = H[kq_gd g r i]?) (hI : ∀ k, kq_rI μ' r i k = kq_rI μ r i k) (hL : ∀ k, kq_rL μ' r i k = kq_rL μ r i k) : kq_at g μ' r i H' := by
  have e1 : (fun j => Value.int (kq_rI μ' r i j)) = fun j => .int (kq_rI μ r i j) := funext fun j => by rw [hI]
  have e2 : (fun j => Value.long (kq_rL μ' r i j)) = fun j => .long (kq_rL μ r i j) := funext fun j => by rw [hL]
  have e3 : kq_val g μ' r i = kq_val g μ r i := funext fun k => by unfold kq_val; rw [hI, hL]
  unfold kq_at at h ⊢
  rw [e1, e2, e3]
  split at h
  · exact h.kept hq
  · exact hq.trans h
  · exact hq.trans h
  · exact hq.trans h
theorem kq_at.lt {g : kq_G} {μ : kq_M} {r i : Nat} {H : Heap} (h : kq_at g μ r i H) : kq_gd g r i < H.size := by
  unfold kq_at at h
  split at h
  · obtain ⟨cell, h1, -⟩ := h
    exact (Array.getElem?_eq_some_iff.mp h1).1
  · exact (Array.getElem?_eq_some_iff.mp h).1
  · exact (Array.getElem?_eq_some_iff.mp h).1
  · exact (Array.getElem?_eq_some_iff.mp h).1
/-- the heap holds the memory; nothing that was there at the law's start has changed -/
def kq_Hd (g : kq_G) (μ : kq_M) (H : Heap) : Prop := (∀ r i, kq_ok i r = true → kq_at g μ r i H) ∧ (kq_gH g).size ≤ H.size ∧ ∀ q : Nat, q < (kq_gH g).size → H[q]? = (kq_gH g)[q]?
/-- the cells are apart, and new -/
def kq_Ap (g : kq_G) : Prop := (∀ r i r' i', kq_ok i r = true → kq_ok i' r' = true → kq_gd g r i = kq_gd g r' i' → r = r' ∧ i = i') ∧ ∀ r i, kq_ok i r = true → kq_A g (kq_gd g r i)
def kq_tys (g : kq_G) : List (ClassId × FieldType) := [(kq_gA g 0, .int), (kq_gA g 1, .long), (kq_gA g 2, .object "KettleInquest$Sheet")]
def kq_nwK : Cond := .methodLinkNest "KettleInquest$Hall" 50 ⟨"KettleInquest", "isKind", "(I)Z"⟩ "KettleInquest"
def kq_nwI : Cond := .methodLinkNest "KettleInquest$Hall" 76 ⟨"KettleInquest", "isIn", "(II)Z"⟩ "KettleInquest"
def kq_nwO : Cond := .methodLinkNest "KettleInquest$Hall" 89 ⟨"KettleInquest", "isOfKind", "(II)Z"⟩ "KettleInquest"
def kq_nwD : Cond := .fieldLinkNest "KettleInquest$Hall" 54 "KettleInquest" "DOUBT_OF_KIND" "[I" "KettleInquest"
/-- what the tables, statics, constants and the script are, at a state -/
def kq_Wd (g : kq_G) (S : Nat × (Nat → Int32)) (U : State) : Prop :=
  va_K (kq_gD g) kq_cls (kq_tys g) U ∧
  (va_X (kq_gd g 0 40) S.1 S.2 U (kq_gH g) ∧ kq_gd g 0 40 < (kq_gH g).size) ∧
  (va_Z "KettleInquest" "KIND_ABOVE" "[I" (.ref (kq_gd g 0 41)) (kq_A g) U (kq_gH g) ∧ va_T .int (kq_gd g 0 41) 6 (fun j => .int (kq_KA j)) (kq_A g) U (kq_gH g)) ∧
  (va_Z "KettleInquest" "DOUBT_OF_KIND" "[I" (.ref (kq_gd g 0 42)) (kq_A g) U (kq_gH g) ∧ va_T .int (kq_gd g 0 42) 6 (fun j => .int (kq_DK j)) (kq_A g) U (kq_gH g)) ∧
  vk_S 12 kq_sl kq_sb (fun j => kq_gd g j 43) (fun j => kq_gd g j 44) (kq_A g) U (kq_gH g) ∧
  (∀ j, j < 12 → vk_R "KettleInquest$Clerk" (kq_si j) (kq_st j) (kq_gd g j 43) U) ∧
  va_Z "java/lang/String" "COMPACT_STRINGS" "Z" (.int 1) (kq_A g) U (kq_gH g) ∧
  (va_Z "jdk/internal/util/Preconditions" "SIOOBE_FORMATTER" "Ljava/util/function/BiFunction;" (kq_gF g) (kq_A g) U (kq_gH g) ∧ (kq_gF g = .null ∨ ∃ t, kq_gF g = .ref t)) ∧
  va_Nw kq_nwK U ∧ va_Nw kq_nwI U ∧ va_Nw kq_nwO U ∧ va_Nw kq_nwD U
theorem kq_Wd.warm {g : kq_G} {S : Nat × (Nat → Int32)} {s U : State} (hW : s.WarmedH U.vm) (h : kq_Wd g S s) : kq_Wd g S U := by
  obtain ⟨h1, ⟨h2, h2'⟩, ⟨h3, h3'⟩, ⟨h4, h4'⟩, h5, h6, h7, ⟨h8, h8'⟩, h9, h10, h11, h12⟩ := h
  have ha := hW.alike
  exact ⟨va_K.moved ha h1, ⟨va_X.moved ha h2, h2'⟩, ⟨va_Z.moved ha h3, va_T.moved ha h3'⟩, ⟨va_Z.moved ha h4, va_T.moved ha h4'⟩, vk_S.moved ha h5, fun j hj => (h6 j hj).warm hW, va_Z.moved ha h7, ⟨va_Z.moved ha h8, h8'⟩, va_Nw.warmM hW h9, va_Nw.warmM hW h10, va_Nw.warmM hW h11, va_Nw.warmF hW h12⟩
theorem kq_Wd.same {g : kq_G} {S : Nat × (Nat → Int32)} {s U : State} (hv : U.vm = s.vm) (h : kq_Wd g S s) : kq_Wd g S U := by
  obtain ⟨h1, ⟨h2, h2'⟩, ⟨h3, h3'⟩, ⟨h4, h4'⟩, h5, h6, h7, ⟨h8, h8'⟩, h9, h10, h11, h12⟩ := h
  have ha : s.vm.Alike U.vm := by rw [hv]; exact Vm.Alike.refl s.vm
  exact ⟨va_K.moved ha h1, ⟨va_X.moved ha h2, h2'⟩, ⟨va_Z.moved ha h3, va_T.moved ha h3'⟩, ⟨va_Z.moved ha h4, va_T.moved ha h4'⟩, vk_S.moved ha h5, fun j hj => (h6 j hj).same hv, va_Z.moved ha h7, ⟨va_Z.moved ha h8, h8'⟩, va_Nw.same rfl hv.symm h9, va_Nw.same rfl hv.symm h10, va_Nw.same rfl hv.symm h11, va_Nw.same rfl hv.symm h12⟩
theorem kq_Wd.gF {g : kq_G} {S : Nat × (Nat → Int32)} {s : State} (h : kq_Wd g S s) : (kq_gF g).category = 1 := by
  obtain ⟨-, -, -, -, -, -, -, ⟨-, h8⟩, -⟩ := h
  rcases h8 with h | ⟨t, h⟩ <;> rw [h] <;> rfl
theorem kq_tr_cat {g : kq_G} (hF : (kq_gF g).category = 1) (v : kq_V) : (kq_tr g v).category = kq_cat v := by
  rcases v with x | x | ⟨r, i⟩
  · rfl
  · rfl
  · show (if i = 45 then kq_gF g else Value.ref (kq_gd g r i)).category = 1
    split
    · exact hF
    · rfl
theorem kq_map_cat {g : kq_G} (hF : (kq_gF g).category = 1) (st : List kq_V) : ((st.map (kq_tr g)).map fun v => v.category).sum = (st.map kq_cat).sum := by
  rw [List.map_map]
  congr 1
  exact List.map_congr_left fun v _ => kq_tr_cat hF v
/-! a method's start, end, and its walk -/
def kq_rm (d : Nat) : Room := { frames := d, cells := 0, slots := 0, locals := 38 * d }
def kq_Pc (g : kq_G) (as : List kq_V) (μ : kq_M) : Array Value → State → Prop := fun v U => v = (as.map (kq_tr g)).toArray ∧ kq_Hd g μ U.heap ∧ kq_Wd g (kq_sc μ) U ∧ kq_Ap g
def kq_Qc (g : kq_G) (S : Nat × (Nat → Int32)) (Q : Option kq_V → kq_M → Prop) : Array Value → State → Outcome → State → Prop := fun _ st oc t =>
  ∃ (r : Option kq_V) (μ' : kq_M), oc = .returned (r.map (kq_tr g)) ∧ Q r μ' ∧ kq_Hd g μ' t.heap ∧ kq_sc μ' = S ∧ st.heap.size ≤ t.heap.size
/-- the method M, called with as over the memory μ, ends with Q -/
def kq_Call (d : Nat) (M : kq_D) (as : List kq_V) (μ : kq_M) (Q : Option kq_V → kq_M → Prop) : Prop := ∀ (l : Launch) (g : kq_G), Met l M.1 (kq_ws M) (kq_rm d) (kq_Pc g as μ) (kq_Qc g (kq_sc μ) Q) 0 0 (kq_A g)
theorem kq_Pc.blind (g : kq_G) (as : List kq_V) (μ : kq_M) : FrameBlind (kq_Pc g as μ) := fun a U f mk h => ⟨h.1, h.2.1, h.2.2.1.same (s := U) rfl, h.2.2.2⟩
def kq_C (M : kq_D) (g : kq_G) (S : Nat × (Nat → Int32)) (p : Program) (s : State) (m : MethodId) (args : Array Value) (meth : Method) (c : Code) : Prop :=
  p.tables.exec = Jvm.exec ∧ c.code = M.2.1 ∧ meth.sig.returnType = M.2.2.2 ∧ meth.locks = false ∧ c.maxLocals = M.2.2.1 ∧ s.vm.findClass M.1.cls = some m.cls ∧ (∀ w ∈ kq_tbl, w.before args s = true) ∧ kq_Wd g S s ∧ kq_Ap g ∧ ((kq_gH g).size ≤ s.heap.size ∧ ∀ q : Nat, q < (kq_gH g).size → s.heap[q]? = (kq_gH g)[q]?)
def kq_lv (g : kq_G) (ls : List (Option kq_V)) (lc : Array Slot) (n : Nat) : Prop := lc.size = n ∧ lv_wf lc ∧ ∀ (i : Nat) (v : kq_V), ls[i]? = some (some v) → lc[i]? = some (.val (kq_tr g v))
/-- M's body goes on from pc to an end with Q -/
def kq_S (M : kq_D) (d pc : Nat) (ls : List (Option kq_V)) (st : List kq_V) (μ : kq_M) (Q : Option kq_V → kq_M → Prop) : Prop :=
  ∀ (R : Room) (kc ks : Nat) (l : Launch) (g : kq_G) (p : Program) (e : Env) (s : State) (m : MethodId) (args : Array Value) (below : List Frame) (meth : Method) (c : Code) (H : Heap) (locs : List Loc) (lc : Array Slot),
    (d ≤ R.frames ∧ 38 * d ≤ R.locals ∧ kc ≤ R.cells ∧ ks ≤ R.slots) → kq_C M g (kq_sc μ) p s m args meth c → kq_Hd g μ H → s.heap.size ≤ H.size → (∀ q ∈ locs, kq_A g q.base) → kq_lv g ls lc M.2.2.1 →
    W p l e R s m args below meth c H locs kc ks (MQ below (kq_Qc g (kq_sc μ) Q) args s kc ks (kq_A g)) (F0 m pc lc (st.map (kq_tr g)))
/-- behind a call -/
def kq_K (M : kq_D) (d pc : Nat) (ls : List (Option kq_V)) (st : List kq_V) (Q : Option kq_V → kq_M → Prop) : Option kq_V → kq_M → Prop := fun ret μ => match ret with
  | some v => kq_S M d pc ls (v :: st) μ Q
  | none => kq_S M d pc ls st μ Q
/-! the first locals -/
def kq_l0 : List kq_V → Nat → List (Option kq_V)
  | [], n => List.replicate n none
  | .inr (.inl x) :: vs, n => some (kq_L x) :: none :: kq_l0 vs (n - 2)
  | .inl x :: vs, n => some (kq_I x) :: kq_l0 vs (n - 1)
  | .inr (.inr q) :: vs, n => some (.inr (.inr q)) :: kq_l0 vs (n - 1)
theorem kq_l0_in {g : kq_G} (hF : (kq_gF g).category = 1) : ∀ (vs : List kq_V) (n k i : Nat) (v : kq_V), (kq_l0 vs n)[i]? = some (some v) → (k + i, kq_tr g v) ∈ lv_args k (vs.map (kq_tr g))
  | [], n, k, i, v, h => by
    simp [kq_l0, List.getElem?_replicate] at h
  | w :: vs, n, k, i, v, h => by
    have hc := kq_tr_cat hF w
    rcases w with x | x | q
    · cases i with
      | zero => cases h; exact List.mem_cons_self
      | succ i =>
        have h1 := kq_l0_in hF vs (n - 1) (k + 1) i v h
        refine List.mem_cons_of_mem _ ?_
        rw [if_neg (by rw [hc]; show ¬ (1 : Nat) = 2; decide)]
        rw [show k + (i + 1) = k + 1 + i by omega]
        exact h1
    · cases i with
      | zero => cases h; exact List.mem_cons_self
      | succ i =>
        cases i with
        | zero => cases h
        | succ i =>
          have h1 := kq_l0_in hF vs (n - 2) (k + 2) i v h
          refine List.mem_cons_of_mem _ ?_
          rw [if_pos (by rw [hc]; rfl)]
          rw [show k + (i + 1 + 1) = k + 2 + i by omega]
          exact h1
    · cases i with
      | zero => cases h; exact List.mem_cons_self
      | succ i =>
        have h1 := kq_l0_in hF vs (n - 1) (k + 1) i v h
        refine List.mem_cons_of_mem _ ?_
        rw [if_neg (by rw [hc]; show ¬ (1 : Nat) = 2; decide)]
        rw [show k + (i + 1) = k + 1 + i by omega]
        exact h1
theorem kq_sl_len {g : kq_G} (hF : (kq_gF g).category = 1) : ∀ vs : List kq_V, (lg_sl (vs.map (kq_tr g))).length = (vs.map kq_cat).sum
  | [] => rfl
  | v :: vs => by
    have ih := kq_sl_len hF vs
    have hc := kq_tr_cat hF v
    have e : lg_sl ((v :: vs).map (kq_tr g)) = (if (kq_tr g v).category = 2 then [Slot.val (kq_tr g v), .second] else [.val (kq_tr g v)]) ++ lg_sl (vs.map (kq_tr g)) := rfl
    rw [e, List.length_append, ih, hc]
    show _ = kq_cat v + (vs.map kq_cat).sum
    congr 1
    rcases v with x | x | q <;> rfl
theorem kq_enter {d : Nat} {M : kq_D} {as : List kq_V} {μ : kq_M} {Q : Option kq_V → kq_M → Prop} (hy : plainName M.1.cls = true) (hn : (as.map kq_cat).sum ≤ M.2.2.1) (k : kq_S M d 0 (kq_l0 as M.2.2.1) [] μ Q) : kq_Call d M as μ Q := by
  intro l g
  refine Met.ofW (cc := M.2.1) (maxL := M.2.2.1) (ret := M.2.2.2) hy rfl ?_
  intro p e s m args below meth c s₁ B hml hv
  obtain ⟨rfl, hH, hW, hA⟩ := hv
  have hF := hW.gF
  have hl := lv_entry (as.map (kq_tr g)) (n := M.2.2.1) (by rw [kq_sl_len hF]; exact hn)
  rw [lg_entry_eq]
  refine k _ 0 0 l g p e s m _ below meth c s.heap [] _ ⟨Nat.le_refl _, Nat.le_refl _, Nat.zero_le _, Nat.zero_le _⟩ ⟨B.exec, B.bytes, B.returns, B.notSynchronized, hml, findClass_of_methodNamed B.named, fun w h => atoms_spec (ws := kq_ws M) B.pre w (List.mem_cons_of_mem _ h), hW, hA, hH.2⟩ hH (Nat.le_refl _) (fun q h => by cases h) ⟨hl.1, hl.2.1, fun i v h => ?_⟩
  have h1 := kq_l0_in hF as M.2.2.1 0 i v h
  rw [Nat.zero_add] at h1
  exact hl.2.2 _ h1
