/-! THE REFERENCE's TEXT: the next token -/
section KM18
variable {d n : Nat} {t : Nat → Int32} {μ μ' : kq_M} {Q : Option kq_V → kq_M → Prop}
theorem kt_M_digits {s : Nat} {o : Option kq_V} (hT : kC_tp t n) (hs : s ≤ n) (k : ∀ μ', kR_fr μ μ' → kq_rI μ' 0 20 7 = 2 → kq_rI μ' 0 20 8 = nI s → kq_rI μ' 0 20 9 = nI (tk_run t 48 57 (n - s) s) → kq_rI μ' 0 20 11 = nI (min (tk_val t s (tk_run t 48 57 (n - s) s - s)) 10000) → Q none μ') : ∀ (q m : Nat) (μ1 : kq_M), s + m + q = n → kR_in t n μ1 → kR_fr μ μ1 → kq_rI μ1 0 20 7 = 2 → kq_rI μ1 0 20 8 = nI s → kq_rI μ1 0 20 9 = nI (s + m) → kq_rI μ1 0 20 11 = nI (min (tk_val t s m) 10000) → tk_run t 48 57 q (s + m) = tk_run t 48 57 (n - s) s → kq_S km_M_advance (d + 2) 207 [some (kq_R 0 20), o] [] μ1 Q := by
  have hn := hT.1
  have out : ∀ (m : Nat) (μ1 : kq_M), kR_fr μ μ1 → kq_rI μ1 0 20 7 = 2 → kq_rI μ1 0 20 8 = nI s → kq_rI μ1 0 20 9 = nI (s + m) → kq_rI μ1 0 20 11 = nI (min (tk_val t s m) 10000) → s + m = tk_run t 48 57 (n - s) s → kq_S km_M_advance (d + 2) 281 [some (kq_R 0 20), o] [] μ1 Q := by
    intro m μ1 f1 e7 e8 e9 e11 er
    refine ks_M_advance_281 ?_
    rw [← er, show s + m - s = m by omega] at k
    exact k μ1 f1 e7 e8 e9 e11
  intro q
  induction q with
  | zero =>
    intro m μ1 hm i1 f1 e7 e8 e9 e11 er
    refine ks_M_advance_207 <| ks_M_advance_208 <| ks_M_advance_211 <| ks_M_advance_212 (fun h212 => ?_) (fun h212 => ?_)
    · exact absurd e7 h212
    · refine ks_M_advance_215 <| ks_M_advance_216 <| ks_M_advance_217 <| ks_M_advance_220 (Nat.le_of_ble_eq_true rfl) ?_
      rw [e9]
      refine kt_M_byteAt hn (by omega) i1 ?_
      rw [if_neg (by omega)]
      refine ks_M_advance_223 (Nat.le_of_ble_eq_true rfl) ?_
      refine kt_M_isDigit ?_
      refine ks_M_advance_226 (fun h226 => ?_) (fun h226 => ?_)
      · exact out m μ1 f1 e7 e8 e9 e11 er
      · exact absurd rfl h226
  | succ q ih =>
    intro m μ1 hm i1 f1 e7 e8 e9 e11 er
    have e1 : tk_run t 48 57 (q + 1) (s + m) = if 48 ≤ t (s + m) ∧ t (s + m) ≤ 57 then tk_run t 48 57 q (s + m + 1) else s + m := rfl
    refine ks_M_advance_207 <| ks_M_advance_208 <| ks_M_advance_211 <| ks_M_advance_212 (fun h212 => ?_) (fun h212 => ?_)
    · exact absurd e7 h212
    · refine ks_M_advance_215 <| ks_M_advance_216 <| ks_M_advance_217 <| ks_M_advance_220 (Nat.le_of_ble_eq_true rfl) ?_
      rw [e9]
      refine kt_M_byteAt hn (by omega) i1 ?_
      rw [if_pos (by omega)]
      refine ks_M_advance_223 (Nat.le_of_ble_eq_true rfl) ?_
      refine kt_M_isDigit ?_
      refine ks_M_advance_226 (fun h226 => ?_) (fun h226 => ?_)
      · rw [if_neg (of_decide_eq_false (kq_b_f h226))] at e1
        exact out m μ1 f1 e7 e8 e9 e11 (e1.symm.trans er)
      · have hb := of_decide_eq_true (kq_b_t h226)
        rw [if_pos hb] at e1
        have c1 : tk_val t s (m + 1) = 10 * tk_val t s m + (kh_nat (t (s + m)) - 48) := rfl
        have fin : ∀ y : Int32, y = nI (min (tk_val t s (m + 1)) 10000) → kq_S km_M_advance (d + 2) 265 [some (kq_R 0 20), o] [kq_I y, kq_R 0 20] μ1 Q := by
          intro y hy
          refine ks_M_advance_265 <| ks_M_advance_268 <| ks_M_advance_269 rfl <| ks_M_advance_270 <| ks_M_advance_273 <| ks_M_advance_274 <| ks_M_advance_275 <| ks_M_advance_278 ?_
          refine ih (m + 1) _ (by omega) (i1.fr ((kR_fr.rf.w ⟨by decide, by decide⟩).w ⟨by decide, by decide⟩)) ((f1.w ⟨by decide, by decide⟩).w ⟨by decide, by decide⟩) ?_ ?_ ?_ ?_ (e1.symm.trans er)
          · rw [kc_wr (fun q => absurd q.2 (by decide)), kc_wr (fun q => absurd q.2 (by decide))]; exact e7
          · rw [kc_wr (fun q => absurd q.2 (by decide)), kc_wr (fun q => absurd q.2 (by decide))]; exact e8
          · rw [kc_ws, kc_wr (fun q => absurd q.2 (by decide)), e9, nI_1]; rfl
          · rw [kc_wr (fun q => absurd q.2 (by decide)), kc_ws, hy]
        refine ks_M_advance_229 <| ks_M_advance_230 <| ks_M_advance_231 <| ks_M_advance_234 <| ks_M_advance_237 (fun h237 => ?_) (fun h237 => ?_)
        · rw [e11, ki_le, nI_toInt (by omega), show (999 : Int32).toInt = 999 from by decide] at h237
          have hv : tk_val t s m ≤ 999 := by omega
          refine ks_M_advance_246 <| ks_M_advance_248 <| ks_M_advance_249 <| ks_M_advance_252 <| ks_M_advance_253 <| ks_M_advance_254 <| ks_M_advance_255 <| ks_M_advance_258 (Nat.le_of_ble_eq_true rfl) ?_
          rw [e9]
          refine kt_M_byteAt hn (by omega) i1 ?_
          rw [if_pos (by omega), e11]
          refine ks_M_advance_261 <| ks_M_advance_262 <| ks_M_advance_264 ?_
          refine fin _ ?_
          rw [ki_le, ki_le] at hb
          have c48 : (48 : Int32).toInt = 48 := by decide
          have c57 : (57 : Int32).toInt = 57 := by decide
          obtain ⟨y, hy, ey⟩ := nI_of (x := t (s + m)) (by rw [ki_lt, ki_0]; omega)
          rw [ey, nI_toInt hy] at hb
          rw [c1, ey, kh_nat_nI hy, show (10 : Int32) = nI 10 from rfl, show (48 : Int32) = nI 48 from rfl, show min (tk_val t s m) 10000 = tk_val t s m by omega, show nI 10 * nI (tk_val t s m) = nI (10 * tk_val t s m) from (Int32.ofNat_mul 10 _).symm, nI_add, kn_sub (by omega) (by omega)]
          congr 1
          omega
        · rw [e11, ki_le, nI_toInt (by omega), show (999 : Int32).toInt = 999 from by decide] at h237
          refine ks_M_advance_240 <| ks_M_advance_243 ?_
          exact fin _ (by rw [show min (tk_val t s (m + 1)) 10000 = 10000 by omega]; rfl)
theorem kt_M_advance {p : Nat} (hT : kC_tp t n) (hi : kR_in t n μ) (hp : p ≤ n) (h9 : kq_rI μ 0 20 9 = nI p) (k : ∀ μ', kR_in t n μ' → kR_T t μ' (tk_at t n p) → kR_fr μ μ' → Q none μ') : kq_Call (d + 2) km_M_advance [kq_R 0 20] μ Q := by
  have hn := hT.1
  have rest : ∀ (s : Nat) (μ1 : kq_M), s ≤ n → kR_in t n μ1 → kq_rI μ1 0 20 8 = nI s → kR_fr μ μ1 → tk_sk t (n - p) p = s → kq_S km_M_advance (d + 2) 34 [some (kq_R 0 20), none] [] μ1 Q := by
    intro s μ1 hs i1 e8 f1 hsk
    have eT : tk_at t n p = tk_mk t n s := by unfold tk_at; rw [hsk]
    unfold tk_mk at eT
    have f2 : kR_fr μ1 (kq_wI μ1 0 20 9 (nI s)) := kR_fr.rf.w ⟨by decide, by decide⟩
    have i2 := i1.fr f2
    have e82 : kq_rI (kq_wI μ1 0 20 9 (nI s)) 0 20 8 = nI s := by rw [kc_wr (fun q => absurd q.2 (by decide))]; exact e8
    have e92 : kq_rI (kq_wI μ1 0 20 9 (nI s)) 0 20 9 = nI s := kc_ws
    have f12 := f1.tr f2
    refine ks_M_advance_34 <| ks_M_advance_35 <| ks_M_advance_36 <| ks_M_advance_39 <| ks_M_advance_42 <| ks_M_advance_43 <| ks_M_advance_44 <| ks_M_advance_47 (Nat.le_of_ble_eq_true rfl) ?_
    rw [e8, e82]
    generalize kq_wI μ1 0 20 9 (nI s) = μ2 at f2 i2 e82 e92 f12
    refine kt_M_byteAt hn hs i2 ?_
    have sn : ∀ (so x b : Int32) (μ3 : kq_M), μ3 = kq_wI (kq_wL (kq_wI μ2 0 20 7 so) 0 20 10 0) 0 20 11 x → kR_fr μ2 μ3 ∧ kq_rI μ3 0 20 7 = so ∧ kq_rI μ3 0 20 8 = nI s ∧ kq_rI μ3 0 20 9 = nI s ∧ kq_rI μ3 0 20 11 = x ∧ kq_rL μ3 0 20 10 = 0 := by
      intro so x b μ3 e
      subst e
      refine ⟨((kR_fr.rf.w ⟨by decide, by decide⟩).wl).w ⟨by decide, by decide⟩, ?_, ?_, ?_, kc_ws, ?_⟩
      · rw [kc_wr (fun q => absurd q.2 (by decide)), kq_rI_wL, kc_ws]
      · rw [kc_wr (fun q => absurd q.2 (by decide)), kq_rI_wL, kc_wr (fun q => absurd q.2 (by decide))]; exact e82
      · rw [kc_wr (fun q => absurd q.2 (by decide)), kq_rI_wL, kc_wr (fun q => absurd q.2 (by decide))]; exact e92
      · rw [kq_rL_wI, kq_rL_wL, if_pos ⟨rfl, rfl, rfl⟩]
    have ra : ∀ so : Int32, kq_rI (kq_wL (kq_wI μ2 0 20 7 so) 0 20 10 0) 0 20 7 = so := fun so => by rw [kq_rI_wL, kc_ws]
    by_cases hsn : s < n
    · rw [if_pos hsn]
      rw [if_neg (by omega)] at eT
      have hb := hT.2 s hsn
      refine ks_M_advance_50 rfl <| ks_M_advance_51 <| ks_M_advance_52 <| ks_M_advance_53 (fun h53 => ?_) (fun h53 => ?_)
      · refine ks_M_advance_60 <| ks_M_advance_61 (Nat.le_of_ble_eq_true rfl) ?_
        refine kt_M_isLetter ?_
        refine ks_M_advance_64 (fun h64 => ?_) (fun h64 => ?_)
        · have g1 := of_decide_eq_false (kq_b_f h64)
          rw [if_neg g1] at eT
          refine ks_M_advance_71 <| ks_M_advance_72 (Nat.le_of_ble_eq_true rfl) ?_
          refine kt_M_isDigit ?_
          refine ks_M_advance_75 (fun h75 => ?_) (fun h75 => ?_)
          · have g2 := of_decide_eq_false (kq_b_f h75)
            rw [if_neg g2] at eT
            refine ks_M_advance_82 <| ks_M_advance_83 <| ks_M_advance_86 <| ks_M_advance_87 <| ks_M_advance_88 <| ks_M_advance_91 <| ks_M_advance_92 <| ks_M_advance_93 <| ks_M_advance_96 <| ks_M_advance_97 (fun h97 => ?_) (fun h97 => ?_)
            · have S := sn 3 (t s) 0 _ rfl
              refine ks_M_advance_104 <| ks_M_advance_105 <| ks_M_advance_108 <| ks_M_advance_109 <| ks_M_advance_112 <| ks_M_advance_113 (fun h113 => ?_) (fun h113 => ?_)
              · exact absurd S.2.1 h113
              · refine ks_M_advance_116 <| ks_M_advance_117 rfl <| ks_M_advance_118 <| ks_M_advance_121 <| ks_M_advance_122 <| ks_M_advance_123 <| ks_M_advance_126 <| ks_M_advance_127 <| ks_M_advance_130 <| ks_M_advance_131 (fun h131 => ?_) (fun h131 => ?_)
                · refine ks_M_advance_207 <| ks_M_advance_208 <| ks_M_advance_211 <| ks_M_advance_212 (fun h212 => ?_) (fun h212 => ?_)
                  · refine ks_M_advance_281 ?_
                    have f4 : kR_fr μ2 (kq_wI (kq_wI (kq_wL (kq_wI μ2 0 20 7 3) 0 20 10 0) 0 20 11 (t s)) 0 20 9 (kq_rI (kq_wI (kq_wL (kq_wI μ2 0 20 7 3) 0 20 10 0) 0 20 11 (t s)) 0 20 9 + 1)) := S.1.w ⟨by decide, by decide⟩
                    have u7 : kq_rI (kq_wI (kq_wI (kq_wL (kq_wI μ2 0 20 7 3) 0 20 10 0) 0 20 11 (t s)) 0 20 9 (kq_rI (kq_wI (kq_wL (kq_wI μ2 0 20 7 3) 0 20 10 0) 0 20 11 (t s)) 0 20 9 + 1)) 0 20 7 = 3 := by rw [kc_wr (fun q => absurd q.2 (by decide))]; exact S.2.1
                    have u8 : kq_rI (kq_wI (kq_wI (kq_wL (kq_wI μ2 0 20 7 3) 0 20 10 0) 0 20 11 (t s)) 0 20 9 (kq_rI (kq_wI (kq_wL (kq_wI μ2 0 20 7 3) 0 20 10 0) 0 20 11 (t s)) 0 20 9 + 1)) 0 20 8 = nI s := by rw [kc_wr (fun q => absurd q.2 (by decide))]; exact S.2.2.1
                    have u9 : kq_rI (kq_wI (kq_wI (kq_wL (kq_wI μ2 0 20 7 3) 0 20 10 0) 0 20 11 (t s)) 0 20 9 (kq_rI (kq_wI (kq_wL (kq_wI μ2 0 20 7 3) 0 20 10 0) 0 20 11 (t s)) 0 20 9 + 1)) 0 20 9 = nI (s + 1) := by rw [kc_ws, S.2.2.2.1, nI_1]
                    have u11 : kq_rI (kq_wI (kq_wI (kq_wL (kq_wI μ2 0 20 7 3) 0 20 10 0) 0 20 11 (t s)) 0 20 9 (kq_rI (kq_wI (kq_wL (kq_wI μ2 0 20 7 3) 0 20 10 0) 0 20 11 (t s)) 0 20 9 + 1)) 0 20 11 = t s := by rw [kc_wr (fun q => absurd q.2 (by decide))]; exact S.2.2.2.2.1
                    by_cases h59 : t s = 59
                    · rw [if_pos h59] at eT
                      rw [eT] at k
                      exact k _ (i2.fr f4) ⟨u7, u8, u9, fun q => absurd q (by show ¬ (3 = 1); decide), fun q => absurd q (by show ¬ (3 = 2); decide), fun _ => u11.trans h59, fun q => absurd q (by show ¬ (3 = 4); decide)⟩ (f12.tr f4)
                    · rw [if_neg h59] at eT
                      rw [eT] at k
                      exact k _ (i2.fr f4) ⟨u7, u8, u9, fun q => absurd q (by show ¬ (4 = 1); decide), fun q => absurd q (by show ¬ (4 = 2); decide), fun q => absurd q (by show ¬ (4 = 3); decide), fun _ q => h59 (u11.symm.trans q)⟩ (f12.tr f4)
                  · rw [kc_wr (fun q => absurd q.2 (by decide)), S.2.1] at h212
                    exact absurd h212 (by decide)
                · rw [kc_wr (fun q => absurd q.2 (by decide)), S.2.1] at h131
                  exact absurd h131 (by decide)
            · rw [ra] at h97
              exact absurd h97 (by decide)
          · have g2 := of_decide_eq_true (kq_b_t h75)
            rw [if_pos g2] at eT
            refine ks_M_advance_78 <| ks_M_advance_79 <| ks_M_advance_83 <| ks_M_advance_86 <| ks_M_advance_87 <| ks_M_advance_88 <| ks_M_advance_91 <| ks_M_advance_92 <| ks_M_advance_93 <| ks_M_advance_96 <| ks_M_advance_97 (fun h97 => ?_) (fun h97 => ?_)
            · rw [ra] at h97
              exact absurd rfl h97
            · have S := sn 2 0 0 _ rfl
              refine ks_M_advance_100 <| ks_M_advance_101 <| ks_M_advance_105 <| ks_M_advance_108 <| ks_M_advance_109 <| ks_M_advance_112 <| ks_M_advance_113 (fun h113 => ?_) (fun h113 => ?_)
              · refine ks_M_advance_126 <| ks_M_advance_127 <| ks_M_advance_130 <| ks_M_advance_131 (fun h131 => ?_) (fun h131 => ?_)
                · refine kt_M_digits hT hs (fun μ4 f4 u7 u8 u9 u11 => ?_) (n - s) 0 _ (by omega) (i2.fr S.1) (f12.tr S.1) S.2.1 S.2.2.1 S.2.2.2.1 S.2.2.2.2.1 rfl
                  rw [eT] at k
                  exact k μ4 (hi.fr f4) ⟨u7, u8, u9, fun q => absurd q (by show ¬ (2 = 1); decide), fun _ => u11, fun q => absurd q (by show ¬ (2 = 3); decide), fun q => absurd q (by show ¬ (2 = 4); decide)⟩ f4
                · exact absurd (S.2.1.symm.trans h131) (by decide)
              · exact absurd (S.2.1.symm.trans h113) (by decide)
        · have g1 := of_decide_eq_true (kq_b_t h64)
          rw [if_pos g1] at eT
          refine ks_M_advance_67 <| ks_M_advance_68 <| ks_M_advance_83 <| ks_M_advance_86 <| ks_M_advance_87 <| ks_M_advance_88 <| ks_M_advance_91 <| ks_M_advance_92 <| ks_M_advance_93 <| ks_M_advance_96 <| ks_M_advance_97 (fun h97 => ?_) (fun h97 => ?_)
          · have S := sn 1 (t s) 0 _ rfl
            refine ks_M_advance_104 <| ks_M_advance_105 <| ks_M_advance_108 <| ks_M_advance_109 <| ks_M_advance_112 <| ks_M_advance_113 (fun h113 => ?_) (fun h113 => ?_)
            · refine kt_M_letters hT hs (fun μ4 f4 u7 u8 u9 u10 => ?_) (n - s) 0 _ (by omega) (i2.fr S.1) (f12.tr S.1) S.2.1 S.2.2.1 S.2.2.2.1 S.2.2.2.2.2 rfl
              rw [eT] at k
              exact k μ4 (hi.fr f4) ⟨u7, u8, u9, fun _ => u10, fun q => absurd q (by show ¬ (1 = 2); decide), fun q => absurd q (by show ¬ (1 = 3); decide), fun q => absurd q (by show ¬ (1 = 4); decide)⟩ f4
            · exact absurd (S.2.1.symm.trans h113) (by decide)
          · rw [ra] at h97
            exact absurd h97 (by decide)
      · exact absurd hb.1 h53
    · rw [if_neg hsn]
      rw [if_pos (by omega)] at eT
      refine ks_M_advance_50 rfl <| ks_M_advance_51 <| ks_M_advance_52 <| ks_M_advance_53 (fun h53 => ?_) (fun h53 => ?_)
      · exact absurd h53 (by decide)
      · refine ks_M_advance_56 <| ks_M_advance_57 <| ks_M_advance_83 <| ks_M_advance_86 <| ks_M_advance_87 <| ks_M_advance_88 <| ks_M_advance_91 <| ks_M_advance_92 <| ks_M_advance_93 <| ks_M_advance_96 <| ks_M_advance_97 (fun h97 => ?_) (fun h97 => ?_)
        · have S := sn 0 (-1) 0 _ rfl
          refine ks_M_advance_104 <| ks_M_advance_105 <| ks_M_advance_108 <| ks_M_advance_109 <| ks_M_advance_112 <| ks_M_advance_113 (fun h113 => ?_) (fun h113 => ?_)
          · refine ks_M_advance_126 <| ks_M_advance_127 <| ks_M_advance_130 <| ks_M_advance_131 (fun h131 => ?_) (fun h131 => ?_)
            · refine ks_M_advance_207 <| ks_M_advance_208 <| ks_M_advance_211 <| ks_M_advance_212 (fun h212 => ?_) (fun h212 => ?_)
              · refine ks_M_advance_281 ?_
                rw [eT] at k
                exact k _ (i2.fr S.1) ⟨S.2.1, S.2.2.1, S.2.2.2.1, fun q => absurd q (by show ¬ (0 = 1); decide), fun q => absurd q (by show ¬ (0 = 2); decide), fun q => absurd q (by show ¬ (0 = 3); decide), fun q => absurd q (by show ¬ (0 = 4); decide)⟩ (f12.tr S.1)
              · exact absurd (S.2.1.symm.trans h212) (by decide)
            · exact absurd (S.2.1.symm.trans h131) (by decide)
          · exact absurd (S.2.1.symm.trans h113) (by decide)
        · rw [ra] at h97
          exact absurd h97 (by decide)
  have loop : ∀ (q s : Nat) (μ1 : kq_M), s + q = n → kR_in t n μ1 → kq_rI μ1 0 20 8 = nI s → kR_fr μ μ1 → tk_sk t (n - p) p = tk_sk t q s → kq_S km_M_advance (d + 2) 8 [some (kq_R 0 20), none] [] μ1 Q := by
    intro q
    induction q with
    | zero =>
      intro s μ1 hs i1 e8 f1 hsk
      refine ks_M_advance_8 <| ks_M_advance_9 <| ks_M_advance_10 <| ks_M_advance_13 (Nat.le_of_ble_eq_true rfl) ?_
      rw [e8]
      refine kt_M_byteAt hn (by omega) i1 ?_
      rw [if_neg (by omega)]
      refine ks_M_advance_16 <| ks_M_advance_18 (fun h18 => ?_) (fun h18 => ?_)
      · exact rest s μ1 (by omega) i1 e8 f1 hsk
      · exact absurd h18 (by decide)
    | succ q ih =>
      intro s μ1 hs i1 e8 f1 hsk
      have e1 : tk_sk t (q + 1) s = if t s = 32 then tk_sk t q (s + 1) else s := rfl
      refine ks_M_advance_8 <| ks_M_advance_9 <| ks_M_advance_10 <| ks_M_advance_13 (Nat.le_of_ble_eq_true rfl) ?_
      rw [e8]
      refine kt_M_byteAt hn (by omega) i1 ?_
      rw [if_pos (by omega)]
      refine ks_M_advance_16 <| ks_M_advance_18 (fun h18 => ?_) (fun h18 => ?_)
      · rw [if_neg h18] at e1
        exact rest s μ1 (by omega) i1 e8 f1 (hsk.trans e1)
      · rw [if_pos h18] at e1
        refine ks_M_advance_21 <| ks_M_advance_22 rfl <| ks_M_advance_23 <| ks_M_advance_26 <| ks_M_advance_27 <| ks_M_advance_28 <| ks_M_advance_31 ?_
        refine ih (s + 1) _ (by omega) (i1.fr (kR_fr.rf.w ⟨by decide, by decide⟩)) ?_ (f1.w ⟨by decide, by decide⟩) (hsk.trans e1)
        rw [kc_ws, e8, nI_1]
  refine ke_M_advance ?_
  refine ks_M_advance_0 <| ks_M_advance_1 <| ks_M_advance_2 <| ks_M_advance_5 ?_
  refine loop (n - p) p _ (by omega) (hi.fr (kR_fr.rf.w ⟨by decide, by decide⟩)) ?_ (kR_fr.rf.w ⟨by decide, by decide⟩) rfl
  rw [kc_ws]; exact h9
end KM18
