/-! THE REFERENCE: heat, answers, minutes, copies of the row -/
theorem kh_up_id (f : Nat → Int32) (w : Nat) : kh_up f w (f w) = f := by
  funext j
  unfold kh_up
  by_cases h : j = w
  · rw [if_pos h, h]
  · rw [if_neg h]
/-- the row and the flag of a boiling may change, nothing else -/
def kM_m (μ μ' : kq_M) : Prop := kq_fr (fun a b => a = 0 ∧ (b = 20 ∨ b = 21)) μ μ' ∧ ∀ k, k ≠ 2 → kq_rI μ' 0 20 k = kq_rI μ 0 20 k
theorem kM_m.rf {μ : kq_M} : kM_m μ μ := ⟨kq_fr.rf, fun _ _ => rfl⟩
theorem kM_m.tr {μ μ' μ'' : kq_M} (h : kM_m μ μ') (h' : kM_m μ' μ'') : kM_m μ μ'' := ⟨h.1.tr h'.1, fun k hk => (h'.2 k hk).trans (h.2 k hk)⟩
theorem kM_m.row {μ μ' : kq_M} {k : Nat} {x : Int32} (h : kM_m μ μ') : kM_m μ (kq_wI μ' 0 21 k x) := ⟨h.1.wI ⟨rfl, Or.inr rfl⟩, fun c hc => (kc_wr (fun q => absurd q.1 (by decide))).trans (h.2 c hc)⟩
theorem kM_m.flag {μ μ' : kq_M} {x : Int32} (h : kM_m μ μ') : kM_m μ (kq_wI μ' 0 20 2 x) := ⟨h.1.wI ⟨rfl, Or.inl rfl⟩, fun c hc => (kc_wr (fun q => hc q.2)).trans (h.2 c hc)⟩
theorem kr_at.flag {μ : kq_M} {v : kh_S} {x : Int32} {k : Nat} (h : kr_at μ 21 v) : kr_at (kq_wI μ 0 20 k x) 21 v := h.fr (P := fun a b => a = 0 ∧ b = 20) (kq_fr.rf.wI ⟨rfl, rfl⟩) (fun q => absurd q.2 (by decide))
section KM2
variable {d w f : Nat} {μ : kq_M} {v : kh_S} {z : kz_S} {Q : Option kq_V → kq_M → Prop}
theorem kt_M_heating (ha : kr_at μ 21 v) (hv : kh_ok v) (hw : w < kh_c v) (hf : f < 8) (k : Q (some (kq_I (kh_heat v w f))) μ) : kq_Call (d + 4) km_M_heating [kq_R 0 20, kq_I (nI w), kq_I (nI f)] μ Q := by
  have hk := hv.2.2.2.2.2.2.2.1 w hw
  rw [kh_in_iff, ki_0, ki_5] at hk
  have rest : ∀ o, kq_S km_M_heating (d + 4) 79 [some (kq_R 0 20), some (kq_I (nI w)), some (kq_I (nI f)), some (kq_I (kh_u v w)), some (kq_I (kq_b (kh_bit (kh_lie v w) f))), some (kq_I (kh_plain v w f)), o] [kq_I (kh_plumb v w f)] μ Q := by
    intro o
    unfold kh_heat at k
    refine ks_M_heating_79 rfl <| ks_M_heating_81 <| ks_M_heating_82 <| ks_M_heating_83 <| ks_M_heating_84 (Nat.le_of_ble_eq_true rfl) ?_
    refine kt_M_its0 ha hv hw ?_
    refine ks_M_heating_87 (fun h87 => ?_) (fun h87 => ?_) (fun h87 => ?_) (fun h87 => ?_) (fun h87 => ?_) (fun h87 => ?_)
    · rw [if_pos h87] at k
      refine ks_M_heating_120 <| ks_M_heating_122 ?_
      exact k
    · rw [h87, if_neg (by decide), if_pos rfl] at k
      unfold kh_wife at k
      refine ks_M_heating_138 <| ks_M_heating_139 <| ks_M_heating_140 <| ks_M_heating_141 (Nat.le_of_ble_eq_true rfl) ?_
      refine kt_M_besideLiar ha hv hw ?_
      refine ks_M_heating_144 (fun h144 => ?_) (fun h144 => ?_)
      · rw [if_neg (by rw [kq_b_f h144]; decide)] at k
        refine ks_M_heating_154 <| ks_M_heating_156 ?_
        exact k
      · rw [if_pos (kq_b_t h144)] at k
        refine ks_M_heating_147 <| ks_M_heating_149 <| ks_M_heating_150 <| ks_M_heating_151 <| ks_M_heating_156 ?_
        exact k
    · rw [h87, if_neg (by decide), if_neg (by decide), if_pos rfl] at k
      refine ks_M_heating_191 <| ks_M_heating_192 <| ks_M_heating_193 ?_
      exact k
    · rw [h87, if_neg (by decide), if_neg (by decide), if_neg (by decide), if_pos rfl] at k
      refine ks_M_heating_123 <| ks_M_heating_125 <| ks_M_heating_126 <| ks_M_heating_127 <| ks_M_heating_128 <| ks_M_heating_129 (Nat.le_of_ble_eq_true rfl) ?_
      refine kt_M_wrong ha hv hw ?_
      refine ks_M_heating_132 <| ks_M_heating_133 <| ks_M_heating_134 <| ks_M_heating_135 <| ks_M_heating_136 <| ks_M_heating_137 ?_
      rw [ib_bit]
      exact k
    · rw [h87, if_neg (by decide), if_neg (by decide), if_neg (by decide), if_neg (by decide), if_pos rfl] at k
      unfold kh_wife at k
      refine ks_M_heating_157 <| ks_M_heating_158 <| ks_M_heating_161 <| ks_M_heating_162 <| ks_M_heating_163 <| ks_M_heating_165 (fun h165 => ?_) (fun h165 => ?_)
      · rw [ha.H] at h165
        rw [if_neg (by rw [ki_le] at h165; rw [ki_lt]; omega)] at k
        refine ks_M_heating_172 <| ks_M_heating_173 <| ks_M_heating_174 <| ks_M_heating_175 (Nat.le_of_ble_eq_true rfl) ?_
        refine kt_M_besideLiar ha hv hw ?_
        refine ks_M_heating_178 (fun h178 => ?_) (fun h178 => ?_)
        · rw [if_neg (by rw [kq_b_f h178]; decide)] at k
          refine ks_M_heating_188 <| ks_M_heating_190 ?_
          exact k
        · rw [if_pos (kq_b_t h178)] at k
          refine ks_M_heating_181 <| ks_M_heating_183 <| ks_M_heating_184 <| ks_M_heating_185 <| ks_M_heating_190 ?_
          exact k
      · rw [ha.H] at h165
        rw [if_pos (by rw [ki_le] at h165; rw [ki_lt]; omega)] at k
        refine ks_M_heating_168 <| ks_M_heating_169 <| ks_M_heating_190 ?_
        exact k
    · rw [if_neg (fun q => by rw [ki_eq, ki_1] at q; omega), if_neg (fun q => by rw [ki_eq, ki_2] at q; omega), if_neg (fun q => by rw [ki_eq, ki_3] at q; omega), if_neg (fun q => by rw [ki_eq, ki_4] at q; omega), if_neg (fun q => by rw [ki_eq, ki_5] at q; omega)] at k
      refine ks_M_heating_194 <| ks_M_heating_196 ?_
      exact k
  have mid : ∀ o o', kq_S km_M_heating (d + 4) 58 [some (kq_R 0 20), some (kq_I (nI w)), some (kq_I (nI f)), some (kq_I (kh_u v w)), some (kq_I (kq_b (kh_bit (kh_lie v w) f))), o, o'] [kq_I (kh_plain v w f)] μ Q := by
    intro o o'
    have g := rest o'
    unfold kh_plumb at g
    refine ks_M_heating_58 rfl <| ks_M_heating_60 <| ks_M_heating_62 (fun h62 => ?_) (fun h62 => ?_)
    · rw [if_neg (fun q => by rw [kq_b_f h62] at q; exact absurd q.2 (by decide))] at g
      refine ks_M_heating_77 ?_
      exact g
    · refine ks_M_heating_65 <| ks_M_heating_66 <| ks_M_heating_67 (fun h67 => ?_) (fun h67 => ?_)
      · rw [ki_le, ki_4, nI_toInt (by omega)] at h67
        rw [if_neg (fun q => by omega)] at g
        refine ks_M_heating_77 ?_
        exact g
      · rw [ki_le, ki_4, nI_toInt (by omega)] at h67
        rw [if_pos ⟨by omega, kq_b_t h62⟩] at g
        refine ks_M_heating_70 <| ks_M_heating_72 <| ks_M_heating_73 <| ks_M_heating_74 ?_
        exact g
  have pl : ∀ o o' o'', kq_S km_M_heating (d + 4) 25 [some (kq_R 0 20), some (kq_I (nI w)), some (kq_I (nI f)), some (kq_I (kh_u v w)), o, o', o''] [kq_I (kq_b (kh_bit (kh_lie v w) f))] μ Q := by
    intro o o' o''
    have g := mid o' o''
    unfold kh_plain at g
    refine ks_M_heating_25 rfl <| ks_M_heating_27 <| ks_M_heating_29 (fun h29 => ?_) (fun h29 => ?_)
    · rw [if_neg (by rw [kq_b_f h29]; decide)] at g
      refine ks_M_heating_38 <| ks_M_heating_39 <| ks_M_heating_40 (Nat.le_of_ble_eq_true rfl) ?_
      refine kt_M_lucky ha hv hw ?_
      refine ks_M_heating_43 <| ks_M_heating_44 <| ks_M_heating_45 <| ks_M_heating_46 <| ks_M_heating_47 <| ks_M_heating_48 (fun h48 => ?_) (fun h48 => ?_)
      · rw [if_neg (show ¬ kh_bit (kh_luck v w) f = true from fun q => h48 (of_decide_eq_true q))] at g
        refine ks_M_heating_57 ?_
        exact g
      · rw [if_pos (show kh_bit (kh_luck v w) f = true from decide_eq_true h48)] at g
        refine ks_M_heating_51 <| ks_M_heating_52 <| ks_M_heating_53 <| ks_M_heating_54 ?_
        exact g
    · rw [if_pos (kq_b_t h29)] at g
      refine ks_M_heating_32 <| ks_M_heating_33 <| ks_M_heating_34 <| ks_M_heating_35 ?_
      exact g
  refine ke_M_heating ?_
  refine ks_M_heating_0 <| ks_M_heating_1 <| ks_M_heating_2 <| ks_M_heating_3 (Nat.le_of_ble_eq_true rfl) ?_
  refine kt_M_its3 ha hv hw ?_
  refine ks_M_heating_6 rfl <| ks_M_heating_7 <| ks_M_heating_8 <| ks_M_heating_9 (Nat.le_of_ble_eq_true rfl) ?_
  refine kt_M_lies ha hv hw ?_
  refine ks_M_heating_12 <| ks_M_heating_13 <| ks_M_heating_14 <| ks_M_heating_15 <| ks_M_heating_16 <| ks_M_heating_17 (fun h17 => ?_) (fun h17 => ?_)
  · have g := pl none none none
    rw [show kh_bit (kh_lie v w) f = false from decide_eq_false h17] at g
    refine ks_M_heating_24 ?_
    exact g
  · have g := pl none none none
    rw [show kh_bit (kh_lie v w) f = true from decide_eq_true h17] at g
    refine ks_M_heating_20 <| ks_M_heating_21 ?_
    exact g
theorem kt_M_answers (ha : kr_at μ 21 v) (hv : kh_ok v) (hw : w < kh_c v) (hf : f < 8) (k : ∀ μ', kr_at μ' 21 (kh_ans v w f) → kM_m μ μ' → kq_rI μ' 0 20 2 = kq_b (kh_boil v w f) → Q none μ') : kq_Call (d + 5) km_M_answers [kq_R 0 20, kq_I (nI w), kq_I (nI f)] μ Q := by
  have hc8 := hv.1
  have fin : ∀ (μ3 : kq_M) (v3 : kh_S) (o : Option kq_V), kr_at μ3 21 v3 → kh_ok v3 → kM_m μ μ3 → kq_rI μ3 0 20 2 = kq_b (kh_boil v w f) → kh_c v3 = kh_c v → kh_n v3 w = kh_n v w → kh_setn v3 w (if kh_learn v w f = true then kh_n v w ||| ((1 : Int32) <<< (nI f &&& 31)) else kh_n v w) = kh_ans v w f → kq_S km_M_answers (d + 5) 158 [some (kq_R 0 20), some (kq_I (nI w)), some (kq_I (nI f)), some (kq_I (kq_b (kh_bit (kh_luck v w) f))), some (kq_I (kh_k v w)), o] [] μ3 Q := by
    intro μ3 v3 o a3 o3 f3 b3 c3 n3 e3
    have st : ∀ o1, kq_S km_M_answers (d + 5) 192 [some (kq_R 0 20), some (kq_I (nI w)), some (kq_I (nI f)), some (kq_I (kq_b (kh_bit (kh_luck v w) f))), some (kq_I (kh_k v w)), o1] [kq_I (kq_b (kh_learn v w f))] μ3 Q := by
      intro o1
      have put : ∀ x, x = (if kh_learn v w f = true then kh_n v w ||| ((1 : Int32) <<< (nI f &&& 31)) else kh_n v w) → Q none (kq_wI μ3 0 21 (7 + 4 * w + 1) x) := by
        intro x hx
        have a4 := a3.wn (x := x) (w0 := w)
        rw [hx, e3] at a4
        rw [← hx] at a4
        refine k _ a4 f3.row ?_
        rw [kc_wr (fun q => absurd q.1 (by decide))]
        exact b3
      refine ks_M_answers_192 rfl <| ks_M_answers_194 <| ks_M_answers_195 <| ks_M_answers_196 <| ks_M_answers_197 <| ks_M_answers_199 (fun h199 => ?_) (fun h199 => ?_)
      · refine ks_M_answers_215 <| ks_M_answers_216 <| ks_M_answers_217 <| ks_M_answers_218 (Nat.le_of_ble_eq_true rfl) ?_
        refine kt_M_its1 a3 o3 (by omega) ?_
        refine ks_M_answers_221 (Nat.le_of_ble_eq_true rfl) ?_
        refine kt_M_puts (q := 1) (by omega) (by decide) ?_
        refine ks_M_answers_224 ?_
        rw [n3]
        exact put _ (by rw [if_neg (by rw [kq_b_f h199]; decide)])
      · refine ks_M_answers_202 <| ks_M_answers_203 <| ks_M_answers_204 <| ks_M_answers_205 (Nat.le_of_ble_eq_true rfl) ?_
        refine kt_M_its1 a3 o3 (by omega) ?_
        refine ks_M_answers_208 <| ks_M_answers_209 <| ks_M_answers_210 <| ks_M_answers_211 <| ks_M_answers_212 <| ks_M_answers_221 (Nat.le_of_ble_eq_true rfl) ?_
        refine kt_M_puts (q := 1) (by omega) (by decide) ?_
        refine ks_M_answers_224 ?_
        rw [n3]
        exact put _ (by rw [if_pos (kq_b_t h199)])
    have yes : kh_learn v w f = true → kq_S km_M_answers (d + 5) 187 [some (kq_R 0 20), some (kq_I (nI w)), some (kq_I (nI f)), some (kq_I (kq_b (kh_bit (kh_luck v w) f))), some (kq_I (kh_k v w)), o] [] μ3 Q := by
      intro h
      have g := st o
      rw [h] at g
      refine ks_M_answers_187 <| ks_M_answers_188 ?_
      exact g
    have no : kh_learn v w f = false → kq_S km_M_answers (d + 5) 191 [some (kq_R 0 20), some (kq_I (nI w)), some (kq_I (nI f)), some (kq_I (kq_b (kh_bit (kh_luck v w) f))), some (kq_I (kh_k v w)), o] [] μ3 Q := by
      intro h
      have g := st o
      rw [h] at g
      refine ks_M_answers_191 ?_
      exact g
    have eL : kh_learn v w f = ((kh_boil v w f && decide (kh_k v w = 2 ∨ kh_k v w = 5)) || (decide (kh_k v w = 4) && kh_bit (kh_luck v w) f)) := rfl
    have lk : (kh_boil v w f && decide (kh_k v w = 2 ∨ kh_k v w = 5)) = false → kq_S km_M_answers (d + 5) 177 [some (kq_R 0 20), some (kq_I (nI w)), some (kq_I (nI f)), some (kq_I (kq_b (kh_bit (kh_luck v w) f))), some (kq_I (kh_k v w)), o] [] μ3 Q := by
      intro h
      rw [h, Bool.false_or] at eL
      refine ks_M_answers_177 <| ks_M_answers_178 (fun h178 => ?_) (fun h178 => ?_)
      · exact no (by rw [eL, kq_b_f h178, Bool.and_false])
      · rw [kq_b_t h178, Bool.and_true] at eL
        refine ks_M_answers_181 <| ks_M_answers_183 <| ks_M_answers_184 (fun h184 => ?_) (fun h184 => ?_)
        · exact no (eL.trans (decide_eq_false h184))
        · exact yes (eL.trans (decide_eq_true h184))
    refine ks_M_answers_158 <| ks_M_answers_159 <| ks_M_answers_162 (fun h162 => ?_) (fun h162 => ?_)
    · rw [b3] at h162
      exact lk (by rw [kq_b_f h162, Bool.false_and])
    · rw [b3] at h162
      have hb := kq_b_t h162
      refine ks_M_answers_165 <| ks_M_answers_167 <| ks_M_answers_168 (fun h168 => ?_) (fun h168 => ?_)
      · exact yes (by rw [eL, hb, decide_eq_true (Or.inl h168)]; rfl)
      · refine ks_M_answers_171 <| ks_M_answers_173 <| ks_M_answers_174 (fun h174 => ?_) (fun h174 => ?_)
        · exact yes (by rw [eL, hb, decide_eq_true (Or.inr h174)]; rfl)
        · exact lk (by rw [decide_eq_false (fun q => q.elim h168 h174), Bool.and_false])
  have hot : ∀ o o', kq_S km_M_answers (d + 5) 18 [some (kq_R 0 20), some (kq_I (nI w)), some (kq_I (nI f)), o, o', none] [kq_I (kq_b (kh_bit (kh_luck v w) f))] μ Q := by
    intro o o'
    refine ks_M_answers_18 rfl <| ks_M_answers_19 <| ks_M_answers_20 <| ks_M_answers_21 <| ks_M_answers_22 (Nat.le_of_ble_eq_true rfl) ?_
    refine kt_M_its0 ha hv hw ?_
    refine ks_M_answers_25 rfl <| ks_M_answers_27 <| ks_M_answers_28 <| ks_M_answers_31 <| ks_M_answers_32 <| ks_M_answers_33 <| ks_M_answers_36 <| ks_M_answers_37 <| ks_M_answers_38 <| ks_M_answers_39 <| ks_M_answers_40 <| ks_M_answers_41 (Nat.le_of_ble_eq_true rfl) ?_
    refine kt_M_heating ha hv hw hf ?_
    refine ks_M_answers_44 <| ks_M_answers_45 <| ks_M_answers_46 <| ks_M_answers_48 (Nat.le_of_ble_eq_true rfl) ?_
    refine kt_M_held ?_
    rw [ha.H, show kh_clamp (kh_H v + kh_heat v w f) 0 99 = kh_h1 v w f from rfl]
    have a1 : kr_at (kq_wI μ 0 21 1 (kh_h1 v w f)) 21 (kh_setH v (kh_h1 v w f)) := ha.wH
    have o1 : kh_ok (kh_setH v (kh_h1 v w f)) := kh_setH_ok hv (kh_clamp_in (by decide))
    have f1 : kM_m μ (kq_wI μ 0 21 1 (kh_h1 v w f)) := kM_m.rf.row
    have dry : kh_boil v w f = false → kq_S km_M_answers (d + 5) 82 [some (kq_R 0 20), some (kq_I (nI w)), some (kq_I (nI f)), some (kq_I (kq_b (kh_bit (kh_luck v w) f))), some (kq_I (kh_k v w)), none] [kq_R 0 20] (kq_wI μ 0 21 1 (kh_h1 v w f)) Q := by
      intro hb
      refine ks_M_answers_82 <| ks_M_answers_83 (by first | exact kq_b01' _ | exact Or.inl rfl | exact Or.inr rfl | assumption) <| ks_M_answers_86 <| ks_M_answers_87 <| ks_M_answers_90 (fun h90 => ?_) (fun h90 => ?_)
      · refine fin _ _ none a1.flag o1 f1.flag (by rw [kc_ws, hb]; rfl) rfl rfl ?_
        cases hl : kh_learn v w f
        · rw [if_neg (by decide)]
          unfold kh_ans
          rw [hl, hb]
          show kh_mk _ _ _ _ _ _ _ _ (kh_up (kh_n v) w (kh_n v w)) _ _ = _
          rw [kh_up_id]
          rfl
        · rw [if_pos rfl]
          unfold kh_ans
          rw [hl, hb]
          rfl
      · exact absurd kc_ws h90
    refine ks_M_answers_51 <| ks_M_answers_52 <| ks_M_answers_53 <| ks_M_answers_54 <| ks_M_answers_57 <| ks_M_answers_58 <| ks_M_answers_59 <| ks_M_answers_60 <| ks_M_answers_63 <| ks_M_answers_64 <| ks_M_answers_65 (fun h65 => ?_) (fun h65 => ?_)
    · rw [a1.H, a1.B] at h65
      exact dry (decide_eq_false (fun q => by have := q.1; rw [ki_le] at this; rw [ki_lt] at h65; change (kh_h1 v w f).toInt < (kh_B v).toInt at h65; omega))
    · rw [a1.H, a1.B] at h65
      refine ks_M_answers_68 <| ks_M_answers_69 <| ks_M_answers_72 <| ks_M_answers_73 <| ks_M_answers_74 <| ks_M_answers_75 (fun h75 => ?_) (fun h75 => ?_)
      · rw [a1.W] at h75
        exact dry (decide_eq_false (fun q => by have := q.2; rw [ki_le] at this; rw [ki_lt] at h75; change (kh_W v).toInt < _ at h75; omega))
      · rw [a1.W] at h75
        have hb : kh_boil v w f = true := decide_eq_true ⟨by rw [ki_le]; rw [ki_lt] at h65; change ¬ (kh_h1 v w f).toInt < (kh_B v).toInt at h65; omega, by rw [ki_le]; rw [ki_lt] at h75; change ¬ (kh_W v).toInt < _ at h75; omega⟩
        have hW4 : 4 ≤ (kh_W v).toInt := by rw [ki_lt, ki_4] at h75; change ¬ (kh_W v).toInt < 4 at h75; omega
        refine ks_M_answers_78 <| ks_M_answers_79 <| ks_M_answers_83 (by first | exact kq_b01' _ | exact Or.inl rfl | exact Or.inr rfl | assumption) <| ks_M_answers_86 <| ks_M_answers_87 <| ks_M_answers_90 (fun h90 => ?_) (fun h90 => ?_)
        · exact absurd (kc_ws.symm.trans h90) (by decide)
        · refine ks_M_answers_93 <| ks_M_answers_94 <| ks_M_answers_97 <| ks_M_answers_98 <| ks_M_answers_99 <| ks_M_answers_102 <| ks_M_answers_103 <| ks_M_answers_104 <| ks_M_answers_105 <| ks_M_answers_106 <| ks_M_answers_107 <| ks_M_answers_110 (Nat.le_of_ble_eq_true rfl) ?_
          refine kt_M_held ?_
          have a2 : kr_at (kq_wI (kq_wI μ 0 21 1 (kh_h1 v w f)) 0 20 2 1) 21 (kh_setH v (kh_h1 v w f)) := a1.flag
          have oE := kh_setE_ok (x := kh_clamp (kh_E v + 2) 0 9999) o1 (kh_clamp_in (by decide))
          have hW := hv.2.2.2.1
          have oW := kh_setW_ok (x := kh_W v - 4) oE (by rw [kh_in_iff, ki_0, ki_99] at hW; rw [kh_in_iff, ki_sub (by omega) (by decide), ki_0, ki_99, ki_4]; omega)
          have oH := kh_setH_ok (x := kh_h1 v w f / 2) oW (kh_div2_in (kh_clamp_in (by decide)))
          rw [show kq_rI (kq_wI (kq_wI μ 0 21 1 (kh_h1 v w f)) 0 20 2 1) 0 21 3 = kh_E v from a2.E]
          refine ks_M_answers_113 <| ks_M_answers_114 <| ks_M_answers_115 <| ks_M_answers_118 <| ks_M_answers_119 rfl rfl <| ks_M_answers_120 <| ks_M_answers_121 <| ks_M_answers_122 <| ks_M_answers_123 <| ks_M_answers_124 <| ks_M_answers_125 <| ks_M_answers_128 <| ks_M_answers_129 rfl rfl <| ks_M_answers_130 <| ks_M_answers_131 <| ks_M_answers_132 <| ks_M_answers_133 <| ks_M_answers_134 <| ks_M_answers_135 <| ks_M_answers_136 <| ks_M_answers_137 <| ks_M_answers_138 <| ks_M_answers_139 <| ks_M_answers_140 (Nat.le_of_ble_eq_true rfl) ?_
          have a3 := a2.wE (x := kh_clamp (kh_E v + 2) 0 9999)
          have f3 : kM_m μ (kq_wI (kq_wI (kq_wI μ 0 21 1 (kh_h1 v w f)) 0 20 2 1) 0 21 3 (kh_clamp (kh_E v + 2) 0 9999)) := f1.flag.row
          have b3 : kq_rI (kq_wI (kq_wI (kq_wI μ 0 21 1 (kh_h1 v w f)) 0 20 2 1) 0 21 3 (kh_clamp (kh_E v + 2) 0 9999)) 0 20 2 = 1 := by rw [kc_wr (fun q => absurd q.1 (by decide)), kc_ws]
          generalize kq_wI (kq_wI (kq_wI μ 0 21 1 (kh_h1 v w f)) 0 20 2 1) 0 21 3 (kh_clamp (kh_E v + 2) 0 9999) = μ3 at a3 f3 b3 ⊢
          rw [show kq_rI μ3 0 21 2 = kh_W v from a3.W]
          have a4 := a3.wW (x := kh_W v - 4)
          have f4 : kM_m μ (kq_wI μ3 0 21 2 (kh_W v - 4)) := f3.row
          have b4 : kq_rI (kq_wI μ3 0 21 2 (kh_W v - 4)) 0 20 2 = 1 := by rw [kc_wr (fun q => absurd q.1 (by decide)), b3]
          generalize kq_wI μ3 0 21 2 (kh_W v - 4) = μ4 at a4 f4 b4 ⊢
          rw [show kq_rI μ4 0 21 1 = kh_h1 v w f from a4.H]
          have a5 := a4.wH (x := kh_h1 v w f / 2)
          have f5 : kM_m μ (kq_wI μ4 0 21 1 (kh_h1 v w f / 2)) := f4.row
          have b5 : kq_rI (kq_wI μ4 0 21 1 (kh_h1 v w f / 2)) 0 20 2 = 1 := by rw [kc_wr (fun q => absurd q.1 (by decide)), b4]
          generalize kq_wI μ4 0 21 1 (kh_h1 v w f / 2) = μ5 at a5 f5 b5 ⊢
          refine kt_M_its3 a5 oH hw ?_
          refine ks_M_answers_143 <| ks_M_answers_144 <| ks_M_answers_145 (Nat.le_of_ble_eq_true rfl) ?_
          refine kt_M_doubting a5 oH hw ?_
          refine ks_M_answers_148 <| ks_M_answers_149 <| ks_M_answers_150 <| ks_M_answers_152 (Nat.le_of_ble_eq_true rfl) ?_
          refine kt_M_held ?_
          refine ks_M_answers_155 (Nat.le_of_ble_eq_true rfl) ?_
          refine kt_M_puts (q := 3) (by omega) (by decide) ?_
          have a6 := a5.wu (w0 := w) (x := kh_clamp (kh_u v w - kh_doubt (kh_k v w)) 0 9)
          refine fin _ _ none a6 (kh_setu_ok oH (kh_clamp_in (by decide))) f5.row ?_ rfl rfl ?_
          · rw [kc_wr (fun q => absurd q.1 (by decide)), b5, hb]; rfl
          · cases hl : kh_learn v w f
            · rw [if_neg (by decide)]
              unfold kh_ans
              rw [hl, hb]
              show kh_mk _ _ _ _ _ _ _ _ (kh_up (kh_n v) w (kh_n v w)) _ _ = _
              rw [kh_up_id]
              rfl
            · rw [if_pos rfl]
              unfold kh_ans
              rw [hl, hb]
              rfl
  refine ke_M_answers ?_
  refine ks_M_answers_0 <| ks_M_answers_1 <| ks_M_answers_2 (Nat.le_of_ble_eq_true rfl) ?_
  refine kt_M_lucky ha hv hw ?_
  refine ks_M_answers_5 <| ks_M_answers_6 <| ks_M_answers_7 <| ks_M_answers_8 <| ks_M_answers_9 <| ks_M_answers_10 (fun h10 => ?_) (fun h10 => ?_)
  · have g := hot none none
    rw [show kh_bit (kh_luck v w) f = false from decide_eq_false h10] at g
    refine ks_M_answers_17 ?_
    exact g
  · have g := hot none none
    rw [show kh_bit (kh_luck v w) f = true from decide_eq_true h10] at g
    refine ks_M_answers_13 <| ks_M_answers_14 ?_
    exact g
end KM2
