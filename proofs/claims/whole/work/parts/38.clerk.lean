/-! THE CLASS's CLERK: tokens -/
def kC_in (t : Nat → Int32) (n : Nat) (μ : kq_M) : Prop := kq_rI μ 0 6 1 = nI n ∧ ∀ j, j < n → kq_rI μ 0 7 j = t j
def kC_T (μ : kq_M) (T : tk_T) : Prop := kq_rI μ 0 6 2 = nI (tk_o T) ∧ kq_rI μ 0 6 3 = nI (tk_a T) ∧ kq_rI μ 0 6 4 = nI (tk_e T) ∧ (tk_o T = 2 → kq_rI μ 0 6 5 = nI (min (tk_v T) 1000))
def kC_6 : Nat → Nat → Prop := fun a b => a = 0 ∧ b = 6
def kC_tp (t : Nat → Int32) (n : Nat) : Prop := n ≤ 120 ∧ ∀ j, j < n → kh_in (t j) 0 255
theorem kn_sub {a b : Nat} (h : b ≤ a) (ha : a < 2 ^ 30) : nI a - nI b = nI (a - b) := by
  rw [ki_eq, ki_sub (by rw [nI_toInt (by omega)]; omega) (by rw [nI_toInt (by omega)]; omega), nI_toInt (by omega), nI_toInt (by omega), nI_toInt (by omega)]
  omega
section KT9
variable {d n : Nat} {t : Nat → Int32} {μ : kq_M} {Q : Option kq_V → kq_M → Prop}
theorem kt_C_endOfRun {s : Nat} {lo hi : Int32} (hn : n ≤ 120) (hi' : kC_in t n μ) (hs : s ≤ n) (h3 : kq_rI μ 0 6 3 = nI s) (k : Q (some (kq_I (nI (tk_run t lo hi (n - s) s)))) μ) : kq_Call d km_C_endOfRun [kq_R 0 6, kq_I lo, kq_I hi] μ Q := by
  have loop : ∀ (q p : Nat), p + q = n → tk_run t lo hi q p = tk_run t lo hi (n - s) s → kq_S km_C_endOfRun d 5 [some (kq_R 0 6), some (kq_I lo), some (kq_I hi), some (kq_I (nI p))] [] μ Q := by
    intro q
    induction q with
    | zero =>
      intro p hp e
      refine ks_C_endOfRun_5 <| ks_C_endOfRun_6 <| ks_C_endOfRun_7 <| ks_C_endOfRun_10 (fun h10 => ?_) (fun h10 => ?_)
      · refine ks_C_endOfRun_39 <| ks_C_endOfRun_40 ?_
        rw [← e] at k
        exact k
      · rw [hi'.1] at h10
        exact absurd (nI_le (show n ≤ p by omega) (by omega)) h10
    | succ q ih =>
      intro p hp e
      have e1 : tk_run t lo hi (q + 1) p = if lo ≤ t p ∧ t p ≤ hi then tk_run t lo hi q (p + 1) else p := rfl
      have out : ¬ (lo ≤ t p ∧ t p ≤ hi) → kq_S km_C_endOfRun d 39 [some (kq_R 0 6), some (kq_I lo), some (kq_I hi), some (kq_I (nI p))] [] μ Q := by
        intro h
        rw [if_neg h] at e1
        refine ks_C_endOfRun_39 <| ks_C_endOfRun_40 ?_
        rw [← e, e1] at k
        exact k
      refine ks_C_endOfRun_5 <| ks_C_endOfRun_6 <| ks_C_endOfRun_7 <| ks_C_endOfRun_10 (fun h10 => ?_) (fun h10 => ?_)
      · rw [hi'.1] at h10
        exact absurd h10 (nI_ge (show p < n by omega) (by omega))
      · refine ks_C_endOfRun_13 <| ks_C_endOfRun_14 <| ks_C_endOfRun_17 <| ks_C_endOfRun_18n (by omega) <| ks_C_endOfRun_19 <| ks_C_endOfRun_20 (fun h20 => ?_) (fun h20 => ?_)
        · rw [hi'.2 p (by omega), ki_lt] at h20
          exact out (fun y => by have := y.1; rw [ki_le] at this; omega)
        · refine ks_C_endOfRun_23 <| ks_C_endOfRun_24 <| ks_C_endOfRun_27 <| ks_C_endOfRun_28n (by omega) <| ks_C_endOfRun_29 <| ks_C_endOfRun_30 (fun h30 => ?_) (fun h30 => ?_)
          · rw [hi'.2 p (by omega), ki_lt] at h30
            exact out (fun y => by have := y.2; rw [ki_le] at this; omega)
          · rw [hi'.2 p (by omega), ki_lt] at h20 h30
            rw [if_pos ⟨by rw [ki_le]; omega, by rw [ki_le]; omega⟩] at e1
            refine ks_C_endOfRun_33n rfl <| ks_C_endOfRun_36 ?_
            exact ih (p + 1) (by omega) (by rw [← e1]; exact e)
  refine ke_C_endOfRun ?_
  refine ks_C_endOfRun_0 <| ks_C_endOfRun_1 <| ks_C_endOfRun_4 rfl ?_
  rw [h3]
  exact loop (n - s) s (by omega) rfl
theorem kt_C_numberThere {s e : Nat} (hn : n ≤ 120) (hi' : kC_in t n μ) (hs : s ≤ e) (he : e ≤ n) (h3 : kq_rI μ 0 6 3 = nI s) (h4 : kq_rI μ 0 6 4 = nI e) (hd : ∀ j, s ≤ j → j < e → 48 ≤ t j ∧ t j ≤ 57) (k : Q (some (kq_I (nI (min (tk_val t s (e - s)) 1000)))) μ) : kq_Call d km_C_numberThere [kq_R 0 6] μ Q := by
  have loop : ∀ (q m : Nat), s + m + q = e → kq_S km_C_numberThere d 7 [some (kq_R 0 6), some (kq_I (nI (min (tk_val t s m) 1000))), some (kq_I (nI (s + m)))] [] μ Q := by
    intro q
    induction q with
    | zero =>
      intro m hm
      refine ks_C_numberThere_7 <| ks_C_numberThere_8 <| ks_C_numberThere_9 <| ks_C_numberThere_12 (fun h12 => ?_) (fun h12 => ?_)
      · refine ks_C_numberThere_48 <| ks_C_numberThere_49 ?_
        rw [show e - s = m by omega] at k
        exact k
      · rw [h4] at h12
        exact absurd (nI_le (show e ≤ s + m by omega) (by omega)) h12
    | succ q ih =>
      intro m hm
      have e1 : tk_val t s (m + 1) = 10 * tk_val t s m + (kh_nat (t (s + m)) - 48) := rfl
      have hb := hd (s + m) (by omega) (by omega)
      refine ks_C_numberThere_7 <| ks_C_numberThere_8 <| ks_C_numberThere_9 <| ks_C_numberThere_12 (fun h12 => ?_) (fun h12 => ?_)
      · rw [h4] at h12
        exact absurd h12 (nI_ge (show s + m < e by omega) (by omega))
      · refine ks_C_numberThere_15 <| ks_C_numberThere_16 <| ks_C_numberThere_18 (fun h18 => ?_) (fun h18 => ?_)
        · rw [ki_le, ki_99, nI_toInt (by omega)] at h18
          have hv : tk_val t s m ≤ 99 := by omega
          refine ks_C_numberThere_27 <| ks_C_numberThere_29 <| ks_C_numberThere_30 <| ks_C_numberThere_31 <| ks_C_numberThere_32 <| ks_C_numberThere_35 <| ks_C_numberThere_36n (by omega) <| ks_C_numberThere_37 <| ks_C_numberThere_38 <| ks_C_numberThere_40 <| ks_C_numberThere_41 rfl <| ks_C_numberThere_42n rfl <| ks_C_numberThere_45 ?_
          have g := ih (m + 1) (by omega)
          rw [hi'.2 (s + m) (by omega)]
          rw [show s + (m + 1) = s + m + 1 by omega] at g
          have e2 : 10 * nI (min (tk_val t s m) 1000) + t (s + m) - 48 = nI (min (tk_val t s (m + 1)) 1000) := by
            rw [ki_le, ki_le] at hb
            have c48 : (48 : Int32).toInt = 48 := by decide
            have c57 : (57 : Int32).toInt = 57 := by decide
            obtain ⟨y, hy, ey⟩ := nI_of (x := t (s + m)) (by rw [ki_lt, ki_0]; omega)
            rw [ey, nI_toInt hy] at hb
            rw [e1, ey, kh_nat_nI hy, show (10 : Int32) = nI 10 from rfl, show (48 : Int32) = nI 48 from rfl, show min (tk_val t s m) 1000 = tk_val t s m by omega, show nI 10 * nI (tk_val t s m) = nI (10 * tk_val t s m) from (Int32.ofNat_mul 10 _).symm, nI_add, kn_sub (by omega) (by omega)]
            congr 1
            omega
          rw [e2]
          exact g
        · rw [ki_le, ki_99, nI_toInt (by omega)] at h18
          refine ks_C_numberThere_21 <| ks_C_numberThere_24 <| ks_C_numberThere_41 rfl <| ks_C_numberThere_42n rfl <| ks_C_numberThere_45 ?_
          have g := ih (m + 1) (by omega)
          rw [show min (tk_val t s (m + 1)) 1000 = 1000 by omega, show s + (m + 1) = s + m + 1 by omega] at g
          exact g
  refine ke_C_numberThere ?_
  refine ks_C_numberThere_0 <| ks_C_numberThere_1 rfl <| ks_C_numberThere_2 <| ks_C_numberThere_3 <| ks_C_numberThere_6 rfl ?_
  rw [h3]
  exact loop (e - s) 0 (by omega)
theorem kC_in.fr {μ' : kq_M} (h : kC_in t n μ) (hf : kq_fr kC_6 μ μ') (h1 : kq_rI μ' 0 6 1 = nI n) : kC_in t n μ' := ⟨h1, fun j hj => (hf.1 0 7 j (fun q => absurd q.2 (by decide))).trans (h.2 j hj)⟩
theorem kt_C_nextToken {p : Nat} (hT : kC_tp t n) (hi : kC_in t n μ) (hp : p ≤ n) (h4 : kq_rI μ 0 6 4 = nI p) (k : ∀ μ', kC_in t n μ' → kC_T μ' (tk_at t n p) → kq_fr kC_6 μ μ' → kq_rI μ' 0 6 6 = kq_rI μ 0 6 6 → Q none μ') : kq_Call (d + 1) km_C_nextToken [kq_R 0 6] μ Q := by
  have hn := hT.1
  have rest : ∀ (s : Nat) (μ1 : kq_M), s ≤ n → kq_rI μ1 0 6 3 = nI s → kq_rI μ1 0 6 1 = nI n → kq_fr kC_6 μ μ1 → kq_rI μ1 0 6 6 = kq_rI μ 0 6 6 → tk_sk t (n - p) p = s → kq_S km_C_nextToken (d + 1) 46 [some (kq_R 0 6), none] [] μ1 Q := by
    intro s μ1 hs h3 h1 f1 h6 hsk
    have i1 := hi.fr f1 h1
    have eT : tk_at t n p = tk_mk t n s := by unfold tk_at; rw [hsk]
    unfold tk_mk at eT
    refine ks_C_nextToken_46 <| ks_C_nextToken_47 <| ks_C_nextToken_50 <| ks_C_nextToken_51 <| ks_C_nextToken_54 (fun h54 => ?_) (fun h54 => ?_)
    · rw [h3, h1, ki_le, nI_toInt (by omega), nI_toInt (by omega)] at h54
      rw [if_pos (by omega)] at eT
      refine ks_C_nextToken_69 <| ks_C_nextToken_70 rfl <| ks_C_nextToken_71 <| ks_C_nextToken_72 (fun h72 => ?_) (fun h72 => ?_)
      · exact absurd h72 (by decide)
      · refine ks_C_nextToken_75 <| ks_C_nextToken_76 <| ks_C_nextToken_77 <| ks_C_nextToken_80 <| ks_C_nextToken_81 <| ks_C_nextToken_82 <| ks_C_nextToken_85 <| ks_C_nextToken_88 <| ks_C_nextToken_188 ?_
        rw [eT] at k
        refine k _ (i1.fr ((kq_fr.rf.wI ⟨rfl, rfl⟩).wI ⟨rfl, rfl⟩) ?_) ⟨?_, ?_, ?_, fun q => absurd q (by show ¬ (0 = 2); decide)⟩ ((f1.wI ⟨rfl, rfl⟩).wI ⟨rfl, rfl⟩) ?_
        · rw [kc_wr (fun q => absurd q.2 (by decide)), kc_wr (fun q => absurd q.2 (by decide))]; exact h1
        · rw [kc_wr (fun q => absurd q.2 (by decide)), kc_ws]; rfl
        · rw [kc_wr (fun q => absurd q.2 (by decide)), kc_wr (fun q => absurd q.2 (by decide))]; exact h3
        · rw [kc_ws, kc_wr (fun q => absurd q.2 (by decide))]; exact h3
        · rw [kc_wr (fun q => absurd q.2 (by decide)), kc_wr (fun q => absurd q.2 (by decide))]; exact h6
    · rw [h3, h1, ki_le, nI_toInt (by omega), nI_toInt (by omega)] at h54
      have hsn : s < n := by omega
      rw [if_neg (by omega)] at eT
      have hb := hT.2 s hsn
      have sign : ¬ (97 ≤ t s ∧ t s ≤ 122) → ¬ (48 ≤ t s ∧ t s ≤ 57) → kq_S km_C_nextToken (d + 1) 163 [some (kq_R 0 6), some (kq_I (t s))] [] μ1 Q := by
        intro g1 g2
        rw [if_neg g1, if_neg g2] at eT
        refine ks_C_nextToken_163 <| ks_C_nextToken_164 <| ks_C_nextToken_165 <| ks_C_nextToken_167 (fun h167 => ?_) (fun h167 => ?_)
        · rw [if_neg h167] at eT
          rw [eT] at k
          refine ks_C_nextToken_174 <| ks_C_nextToken_175 <| ks_C_nextToken_178 <| ks_C_nextToken_179 <| ks_C_nextToken_180 <| ks_C_nextToken_183 <| ks_C_nextToken_184 <| ks_C_nextToken_185 <| ks_C_nextToken_188 ?_
          refine k _ (i1.fr ((kq_fr.rf.wI ⟨rfl, rfl⟩).wI ⟨rfl, rfl⟩) ?_) ⟨?_, ?_, ?_, fun q => absurd q (by show ¬ (4 = 2); decide)⟩ ((f1.wI ⟨rfl, rfl⟩).wI ⟨rfl, rfl⟩) ?_
          · rw [kc_wr (fun q => absurd q.2 (by decide)), kc_wr (fun q => absurd q.2 (by decide))]; exact h1
          · rw [kc_wr (fun q => absurd q.2 (by decide)), kc_ws]; rfl
          · rw [kc_wr (fun q => absurd q.2 (by decide)), kc_wr (fun q => absurd q.2 (by decide))]; exact h3
          · rw [kc_ws, kc_wr (fun q => absurd q.2 (by decide)), h3, nI_1]; rfl
          · rw [kc_wr (fun q => absurd q.2 (by decide)), kc_wr (fun q => absurd q.2 (by decide))]; exact h6
        · rw [if_pos h167] at eT
          rw [eT] at k
          refine ks_C_nextToken_170 <| ks_C_nextToken_171 <| ks_C_nextToken_175 <| ks_C_nextToken_178 <| ks_C_nextToken_179 <| ks_C_nextToken_180 <| ks_C_nextToken_183 <| ks_C_nextToken_184 <| ks_C_nextToken_185 <| ks_C_nextToken_188 ?_
          refine k _ (i1.fr ((kq_fr.rf.wI ⟨rfl, rfl⟩).wI ⟨rfl, rfl⟩) ?_) ⟨?_, ?_, ?_, fun q => absurd q (by show ¬ (3 = 2); decide)⟩ ((f1.wI ⟨rfl, rfl⟩).wI ⟨rfl, rfl⟩) ?_
          · rw [kc_wr (fun q => absurd q.2 (by decide)), kc_wr (fun q => absurd q.2 (by decide))]; exact h1
          · rw [kc_wr (fun q => absurd q.2 (by decide)), kc_ws]; rfl
          · rw [kc_wr (fun q => absurd q.2 (by decide)), kc_wr (fun q => absurd q.2 (by decide))]; exact h3
          · rw [kc_ws, kc_wr (fun q => absurd q.2 (by decide)), h3, nI_1]; rfl
          · rw [kc_wr (fun q => absurd q.2 (by decide)), kc_wr (fun q => absurd q.2 (by decide))]; exact h6
      have numb : ¬ (97 ≤ t s ∧ t s ≤ 122) → kq_S km_C_nextToken (d + 1) 123 [some (kq_R 0 6), some (kq_I (t s))] [] μ1 Q := by
        intro g1
        refine ks_C_nextToken_123 <| ks_C_nextToken_124 <| ks_C_nextToken_126 (fun h126 => ?_) (fun h126 => ?_)
        · exact sign g1 (fun q => by rw [ki_lt] at h126; have := q.1; rw [ki_le] at this; omega)
        · refine ks_C_nextToken_129 <| ks_C_nextToken_130 <| ks_C_nextToken_132 (fun h132 => ?_) (fun h132 => ?_)
          · exact sign g1 (fun q => by rw [ki_lt] at h132; have := q.2; rw [ki_le] at this; omega)
          · have g2 : 48 ≤ t s ∧ t s ≤ 57 := ⟨by rw [ki_lt] at h126; rw [ki_le]; omega, by rw [ki_lt] at h132; rw [ki_le]; omega⟩
            rw [if_neg g1, if_pos g2] at eT
            rw [eT] at k
            refine ks_C_nextToken_135 <| ks_C_nextToken_136 <| ks_C_nextToken_137 <| ks_C_nextToken_140 <| ks_C_nextToken_141 <| ks_C_nextToken_142 <| ks_C_nextToken_144 <| ks_C_nextToken_146 (Nat.le_of_ble_eq_true rfl) ?_
            have i2 : kC_in t n (kq_wI μ1 0 6 2 2) := i1.fr (kq_fr.rf.wI ⟨rfl, rfl⟩) (by rw [kc_wr (fun q => absurd q.2 (by decide))]; exact h1)
            refine kt_C_endOfRun hn i2 hs (by rw [kc_wr (fun q => absurd q.2 (by decide))]; exact h3) ?_
            refine ks_C_nextToken_149 <| ks_C_nextToken_152 <| ks_C_nextToken_153 <| ks_C_nextToken_154 (Nat.le_of_ble_eq_true rfl) ?_
            have r1 := tk_run_le (t := t) (lo := 48) (hi := 57) (n - s) s
            have i3 : kC_in t n (kq_wI (kq_wI μ1 0 6 2 2) 0 6 4 (nI (tk_run t 48 57 (n - s) s))) := i2.fr (kq_fr.rf.wI ⟨rfl, rfl⟩) (by rw [kc_wr (fun q => absurd q.2 (by decide))]; exact i2.1)
            refine kt_C_numberThere hn i3 r1.1 (by omega) (by rw [kc_wr (fun q => absurd q.2 (by decide)), kc_wr (fun q => absurd q.2 (by decide))]; exact h3) kc_ws (fun j h1 h2 => tk_run_in _ _ _ h1 h2) ?_
            refine ks_C_nextToken_157 <| ks_C_nextToken_160 <| ks_C_nextToken_188 ?_
            refine k _ (i3.fr (kq_fr.rf.wI ⟨rfl, rfl⟩) ?_) ⟨?_, ?_, ?_, fun _ => ?_⟩ (((f1.wI ⟨rfl, rfl⟩).wI ⟨rfl, rfl⟩).wI ⟨rfl, rfl⟩) ?_
            · rw [kc_wr (fun q => absurd q.2 (by decide))]; exact i3.1
            · rw [kc_wr (fun q => absurd q.2 (by decide)), kc_wr (fun q => absurd q.2 (by decide)), kc_ws]; rfl
            · rw [kc_wr (fun q => absurd q.2 (by decide)), kc_wr (fun q => absurd q.2 (by decide)), kc_wr (fun q => absurd q.2 (by decide))]; exact h3
            · rw [kc_wr (fun q => absurd q.2 (by decide)), kc_ws]; rfl
            · rw [kc_ws]; rfl
            · rw [kc_wr (fun q => absurd q.2 (by decide)), kc_wr (fun q => absurd q.2 (by decide)), kc_wr (fun q => absurd q.2 (by decide))]; exact h6
      refine ks_C_nextToken_57 <| ks_C_nextToken_58 <| ks_C_nextToken_61 <| ks_C_nextToken_62 <| ks_C_nextToken_65 s h3 (by omega) <| ks_C_nextToken_66 <| ks_C_nextToken_70 rfl <| ks_C_nextToken_71 <| ks_C_nextToken_72 (fun h72 => ?_) (fun h72 => ?_)
      · rw [i1.2 s hsn]
        refine ks_C_nextToken_91 <| ks_C_nextToken_92 <| ks_C_nextToken_94 (fun h94 => ?_) (fun h94 => ?_)
        · exact numb (fun q => by rw [ki_lt] at h94; have := q.1; rw [ki_le] at this; omega)
        · refine ks_C_nextToken_97 <| ks_C_nextToken_98 <| ks_C_nextToken_100 (fun h100 => ?_) (fun h100 => ?_)
          · exact numb (fun q => by rw [ki_lt] at h100; have := q.2; rw [ki_le] at this; omega)
          · have g2 : 97 ≤ t s ∧ t s ≤ 122 := ⟨by rw [ki_lt] at h94; rw [ki_le]; omega, by rw [ki_lt] at h100; rw [ki_le]; omega⟩
            rw [if_pos g2] at eT
            rw [eT] at k
            refine ks_C_nextToken_103 <| ks_C_nextToken_104 <| ks_C_nextToken_105 <| ks_C_nextToken_108 <| ks_C_nextToken_109 <| ks_C_nextToken_110 <| ks_C_nextToken_112 <| ks_C_nextToken_114 (Nat.le_of_ble_eq_true rfl) ?_
            have i2 : kC_in t n (kq_wI μ1 0 6 2 1) := i1.fr (kq_fr.rf.wI ⟨rfl, rfl⟩) (by rw [kc_wr (fun q => absurd q.2 (by decide))]; exact h1)
            refine kt_C_endOfRun hn i2 hs (by rw [kc_wr (fun q => absurd q.2 (by decide))]; exact h3) ?_
            refine ks_C_nextToken_117 <| ks_C_nextToken_120 <| ks_C_nextToken_188 ?_
            refine k _ (i2.fr (kq_fr.rf.wI ⟨rfl, rfl⟩) ?_) ⟨?_, ?_, ?_, fun q => absurd q (by show ¬ (1 = 2); decide)⟩ ((f1.wI ⟨rfl, rfl⟩).wI ⟨rfl, rfl⟩) ?_
            · rw [kc_wr (fun q => absurd q.2 (by decide))]; exact i2.1
            · rw [kc_wr (fun q => absurd q.2 (by decide)), kc_ws]; rfl
            · rw [kc_wr (fun q => absurd q.2 (by decide)), kc_wr (fun q => absurd q.2 (by decide))]; exact h3
            · rw [kc_ws]; rfl
            · rw [kc_wr (fun q => absurd q.2 (by decide)), kc_wr (fun q => absurd q.2 (by decide))]; exact h6
      · rw [i1.2 s hsn] at h72
        exact absurd hb.1 h72
  have loop : ∀ (q s : Nat) (μ1 : kq_M), s + q = n → kq_rI μ1 0 6 3 = nI s → kq_rI μ1 0 6 1 = nI n → kq_fr kC_6 μ μ1 → kq_rI μ1 0 6 6 = kq_rI μ 0 6 6 → tk_sk t (n - p) p = tk_sk t q s → kq_S km_C_nextToken (d + 1) 8 [some (kq_R 0 6), none] [] μ1 Q := by
    intro q
    induction q with
    | zero =>
      intro s μ1 hs h3 h1 f1 h6 hsk
      refine ks_C_nextToken_8 <| ks_C_nextToken_9 <| ks_C_nextToken_12 <| ks_C_nextToken_13 <| ks_C_nextToken_16 (fun h16 => ?_) (fun h16 => ?_)
      · exact rest s μ1 (by omega) h3 h1 f1 h6 hsk
      · rw [h3, h1] at h16
        exact absurd (nI_le (show n ≤ s by omega) (by omega)) h16
    | succ q ih =>
      intro s μ1 hs h3 h1 f1 h6 hsk
      have i1 := hi.fr f1 h1
      have e1 : tk_sk t (q + 1) s = if t s = 32 then tk_sk t q (s + 1) else s := rfl
      refine ks_C_nextToken_8 <| ks_C_nextToken_9 <| ks_C_nextToken_12 <| ks_C_nextToken_13 <| ks_C_nextToken_16 (fun h16 => ?_) (fun h16 => ?_)
      · rw [h3, h1] at h16
        exact absurd h16 (nI_ge (show s < n by omega) (by omega))
      · refine ks_C_nextToken_19 <| ks_C_nextToken_20 <| ks_C_nextToken_23 <| ks_C_nextToken_24 <| ks_C_nextToken_27 s h3 (by omega) <| ks_C_nextToken_28 <| ks_C_nextToken_30 (fun h30 => ?_) (fun h30 => ?_)
        · rw [i1.2 s (by omega)] at h30
          rw [if_neg h30] at e1
          exact rest s μ1 (by omega) h3 h1 f1 h6 (hsk.trans e1)
        · rw [i1.2 s (by omega)] at h30
          rw [if_pos h30] at e1
          refine ks_C_nextToken_33 <| ks_C_nextToken_34 rfl <| ks_C_nextToken_35 <| ks_C_nextToken_38 <| ks_C_nextToken_39 <| ks_C_nextToken_40 <| ks_C_nextToken_43 ?_
          refine ih (s + 1) _ (by omega) ?_ ?_ (f1.wI ⟨rfl, rfl⟩) ?_ (hsk.trans e1)
          · rw [kc_ws, h3, nI_1]
          · rw [kc_wr (fun q => absurd q.2 (by decide))]; exact h1
          · rw [kc_wr (fun q => absurd q.2 (by decide))]; exact h6
  refine ke_C_nextToken ?_
  refine ks_C_nextToken_0 <| ks_C_nextToken_1 <| ks_C_nextToken_2 <| ks_C_nextToken_5 ?_
  refine loop (n - p) p _ (by omega) ?_ ?_ (kq_fr.rf.wI ⟨rfl, rfl⟩) ?_ rfl
  · rw [kc_ws]; exact h4
  · rw [kc_wr (fun q => absurd q.2 (by decide))]; exact hi.1
  · rw [kc_wr (fun q => absurd q.2 (by decide))]
theorem kt_C_isWord {r : Nat} {T : tk_T} (hr : r < 12) (hn : n ≤ 120) (hi : kC_in t n μ) (hT : kC_T μ T) (hae : tk_a T ≤ tk_e T ∧ tk_e T ≤ n ∧ tk_o T ≤ 4) (k : Q (some (kq_I (kq_b (tk_w t T r)))) μ) : kq_Call (d + 4) km_C_isWord [kq_R 0 6, kq_R r 43] μ Q := by
  have no : ∀ o, ¬ (tk_o T = 1 ∧ tk_e T - tk_a T = kq_sl.getD r 0 ∧ ∀ i, i < kq_sl.getD r 0 → t (tk_a T + i) = (kq_sb.getD r []).getD i 0) → kq_S km_C_isWord (d + 4) 24 [some (kq_R 0 6), some (kq_R r 43), o] [] μ Q := by
    intro o h
    rw [show tk_w t T r = false from decide_eq_false h] at k
    refine ks_C_isWord_24 <| ks_C_isWord_25 ?_
    exact k
  refine ke_C_isWord ?_
  refine ks_C_isWord_0 <| ks_C_isWord_1 <| ks_C_isWord_4 <| ks_C_isWord_5 (fun h5 => ?_) (fun h5 => ?_)
  · rw [hT.1] at h5
    exact no none (fun q => h5 (by rw [q.1]; rfl))
  · rw [hT.1] at h5
    have ho : tk_o T = 1 := by
      rw [ki_eq, ki_1, nI_toInt (by omega)] at h5
      omega
    refine ks_C_isWord_8 <| ks_C_isWord_9 <| ks_C_isWord_12 <| ks_C_isWord_13 <| ks_C_isWord_16 <| ks_C_isWord_17 <| ks_C_isWord_18 (by first | rfl | assumption) (Nat.le_of_ble_eq_true rfl) ?_
    refine kt_jS_length hr ?_
    have hl := kq_sl_31 r hr
    refine ks_C_isWord_21 (fun h21 => ?_) (fun h21 => ?_)
    · rw [hT.2.1, hT.2.2.1, kn_sub hae.1 (by omega), ki_eq, nI_toInt (by omega), nI_toInt hl] at h21
      have hlen : tk_e T - tk_a T = kq_sl.getD r 0 := by omega
      have loop : ∀ (q i : Nat), i + q = kq_sl.getD r 0 → (∀ j, j < i → t (tk_a T + j) = (kq_sb.getD r []).getD j 0) → kq_S km_C_isWord (d + 4) 28 [some (kq_R 0 6), some (kq_R r 43), some (kq_I (nI i))] [] μ Q := by
        intro q
        induction q with
        | zero =>
          intro i hi' h
          refine ks_C_isWord_28 <| ks_C_isWord_29 <| ks_C_isWord_30 (by first | rfl | assumption) (Nat.le_of_ble_eq_true rfl) ?_
          refine kt_jS_length hr ?_
          refine ks_C_isWord_33 (fun h33 => ?_) (fun h33 => ?_)
          · refine ks_C_isWord_63 <| ks_C_isWord_64 ?_
            rw [show tk_w t T r = true from decide_eq_true ⟨ho, hlen, fun j hj => h j (by omega)⟩] at k
            exact k
          · exact absurd (nI_le (show kq_sl.getD r 0 ≤ i by omega) (by omega)) h33
        | succ q ih =>
          intro i hi' h
          refine ks_C_isWord_28 <| ks_C_isWord_29 <| ks_C_isWord_30 (by first | rfl | assumption) (Nat.le_of_ble_eq_true rfl) ?_
          refine kt_jS_length hr ?_
          refine ks_C_isWord_33 (fun h33 => ?_) (fun h33 => ?_)
          · exact absurd h33 (nI_ge (show i < kq_sl.getD r 0 by omega) hl)
          · refine ks_C_isWord_36 <| ks_C_isWord_37 <| ks_C_isWord_40 <| ks_C_isWord_41 <| ks_C_isWord_44 <| ks_C_isWord_45 <| ks_C_isWord_46 (tk_a T + i) (by rw [hT.2.1, nI_add]) (by omega) <| ks_C_isWord_47 <| ks_C_isWord_48 <| ks_C_isWord_49 (by first | rfl | assumption) (Nat.le_of_ble_eq_true rfl) ?_
            refine kt_jS_charAt hr (by omega) ?_
            rw [hi.2 (tk_a T + i) (by omega)]
            refine ks_C_isWord_52 (fun h52 => ?_) (fun h52 => ?_)
            · refine ks_C_isWord_57n rfl <| ks_C_isWord_60 ?_
              refine ih (i + 1) (by omega) (fun j hj => ?_)
              by_cases e : j = i
              · rw [e]; exact h52
              · exact h j (by omega)
            · rw [show tk_w t T r = false from decide_eq_false (fun q => h52 (q.2.2 i (by omega)))] at k
              refine ks_C_isWord_55 <| ks_C_isWord_56 ?_
              exact k
      refine ks_C_isWord_26 <| ks_C_isWord_27 rfl ?_
      exact loop (kq_sl.getD r 0) 0 (by omega) (fun j hj => absurd hj (by omega))
    · rw [hT.2.1, hT.2.2.1, kn_sub hae.1 (by omega), ki_eq, nI_toInt (by omega), nI_toInt hl] at h21
      exact no none (fun q => h21 (by rw [q.2.1]))
theorem kt_C_isNumberUpTo {T : tk_T} {m : Nat} (hm : m < 1000) (hT : kC_T μ T) (ho : tk_o T ≤ 4) (k : Q (some (kq_I (kq_b (tk_num T m)))) μ) : kq_Call d km_C_isNumberUpTo [kq_R 0 6, kq_I (nI m)] μ Q := by
  have no : ¬ (tk_o T = 2 ∧ tk_v T ≤ m) → kq_S km_C_isNumberUpTo d 20 [some (kq_R 0 6), some (kq_I (nI m))] [] μ Q := by
    intro h
    rw [show tk_num T m = false from decide_eq_false h] at k
    refine ks_C_isNumberUpTo_20 <| ks_C_isNumberUpTo_21 (by first | exact kq_b01' _ | exact Or.inl rfl | exact Or.inr rfl | assumption) ?_
    exact k
  refine ke_C_isNumberUpTo ?_
  refine ks_C_isNumberUpTo_0 <| ks_C_isNumberUpTo_1 <| ks_C_isNumberUpTo_4 <| ks_C_isNumberUpTo_5 (fun h5 => ?_) (fun h5 => ?_)
  · rw [hT.1] at h5
    exact no (fun q => h5 (by rw [q.1]; rfl))
  · rw [hT.1, ki_eq, ki_2, nI_toInt (by omega)] at h5
    have h2 : tk_o T = 2 := by omega
    refine ks_C_isNumberUpTo_8 <| ks_C_isNumberUpTo_9 <| ks_C_isNumberUpTo_12 <| ks_C_isNumberUpTo_13 (fun h13 => ?_) (fun h13 => ?_)
    · rw [hT.2.2.2 h2, ki_lt, nI_toInt (by omega), nI_toInt (by omega)] at h13
      exact no (fun q => by have := q.2; omega)
    · rw [hT.2.2.2 h2, ki_lt, nI_toInt (by omega), nI_toInt (by omega)] at h13
      rw [show tk_num T m = true from decide_eq_true ⟨h2, by omega⟩] at k
      refine ks_C_isNumberUpTo_16 <| ks_C_isNumberUpTo_17 <| ks_C_isNumberUpTo_21 (by first | exact kq_b01' _ | exact Or.inl rfl | exact Or.inr rfl | assumption) ?_
      exact k
def kn_r (j : Nat) : Nat := if j = 0 then 5 else j - 1
theorem kt_C_nameOf {j : Nat} (hj : j < 6) (k : Q (some (kq_R (kn_r j) 43)) μ) : kq_Call d km_C_nameOf [kq_I (nI j)] μ Q := by
  have e : ∀ c : Nat, c < 6 → nI j = nI c → j = c := fun c hc h => by rw [ki_eq, nI_toInt (by omega), nI_toInt (by omega)] at h; omega
  refine ke_C_nameOf ?_
  refine ks_C_nameOf_0 <| ks_C_nameOf_1 (fun h1 => ?_) (fun h1 => ?_) (fun h1 => ?_) (fun h1 => ?_) (fun h1 => ?_) (fun h1 => ?_)
  · rw [e 1 (by decide) h1] at k
    refine ks_C_nameOf_36 <| ks_C_nameOf_38 rfl ?_
    exact k
  · rw [e 2 (by decide) h1] at k
    refine ks_C_nameOf_39 <| ks_C_nameOf_41 rfl ?_
    exact k
  · rw [e 3 (by decide) h1] at k
    refine ks_C_nameOf_42 <| ks_C_nameOf_44 rfl ?_
    exact k
  · rw [e 4 (by decide) h1] at k
    refine ks_C_nameOf_45 <| ks_C_nameOf_47 rfl ?_
    exact k
  · rw [e 5 (by decide) h1] at k
    refine ks_C_nameOf_48 <| ks_C_nameOf_50 rfl ?_
    exact k
  · rw [nI_toInt (by omega)] at h1
    rw [show j = 0 by omega] at k
    refine ks_C_nameOf_51 <| ks_C_nameOf_53 rfl ?_
    exact k
def tk_kd (t : Nat → Int32) (T : tk_T) : Nat → Nat → Int32
  | 0, _ => -1
  | q + 1, j => if tk_w t T (kn_r j) = true then nI j else tk_kd t T q (j + 1)
theorem tk_kd_eq (T : tk_T) : tk_kd t T 6 0 = tk_kind t T := rfl
theorem kt_C_kindNamed {T : tk_T} (hn : n ≤ 120) (hi : kC_in t n μ) (hT : kC_T μ T) (hae : tk_a T ≤ tk_e T ∧ tk_e T ≤ n ∧ tk_o T ≤ 4) (k : Q (some (kq_I (tk_kind t T))) μ) : kq_Call (d + 5) km_C_kindNamed [kq_R 0 6] μ Q := by
  have loop : ∀ (q j : Nat), j + q = 6 → tk_kd t T q j = tk_kind t T → kq_S km_C_kindNamed (d + 5) 2 [some (kq_R 0 6), some (kq_I (nI j))] [] μ Q := by
    intro q
    induction q with
    | zero =>
      intro j hj e
      refine ks_C_kindNamed_2 <| ks_C_kindNamed_3 <| ks_C_kindNamed_5 (fun h5 => ?_) (fun h5 => ?_)
      · refine ks_C_kindNamed_27 <| ks_C_kindNamed_28 ?_
        rw [← e] at k
        exact k
      · rw [ki_le, ki_6, nI_toInt (by omega)] at h5
        omega
    | succ q ih =>
      intro j hj e
      have e1 : tk_kd t T (q + 1) j = if tk_w t T (kn_r j) = true then nI j else tk_kd t T q (j + 1) := rfl
      have hr : kn_r j < 12 := by unfold kn_r; split <;> omega
      refine ks_C_kindNamed_2 <| ks_C_kindNamed_3 <| ks_C_kindNamed_5 (fun h5 => ?_) (fun h5 => ?_)
      · rw [ki_le, ki_6, nI_toInt (by omega)] at h5
        omega
      · refine ks_C_kindNamed_8 <| ks_C_kindNamed_9 <| ks_C_kindNamed_10 (Nat.le_of_ble_eq_true rfl) ?_
        refine kt_C_nameOf (by omega) ?_
        refine ks_C_kindNamed_13 (Nat.le_of_ble_eq_true rfl) ?_
        refine kt_C_isWord hr hn hi hT hae ?_
        refine ks_C_kindNamed_16 (fun h16 => ?_) (fun h16 => ?_)
        · rw [if_neg (by rw [kq_b_f h16]; decide)] at e1
          refine ks_C_kindNamed_21n rfl <| ks_C_kindNamed_24 ?_
          exact ih (j + 1) (by omega) (e1.symm.trans e)
        · rw [if_pos (kq_b_t h16)] at e1
          refine ks_C_kindNamed_19 <| ks_C_kindNamed_20 ?_
          rw [← e, e1] at k
          exact k
  refine ke_C_kindNamed ?_
  refine ks_C_kindNamed_0 <| ks_C_kindNamed_1 rfl ?_
  exact loop 6 0 rfl (tk_kd_eq T)
end KT9
