/-! THE REFERENCE: its calls (14): inquest -/
section KM24
variable {d n p : Nat} {t : Nat → Int32} {T : tk_T} {g : Bool} {v : kh_S} {z : kz_S} {μ μ' : kq_M} {Q : Option kq_V → kq_M → Prop}
theorem kM_at.text (h : kM_at μ z) (h1 : kr_at μ' 21 v) (hf : kq_fr (fun a b => a = 0 ∧ (b = 20 ∨ b = 21 ∨ b = 31)) μ μ') (h6 : kq_rI μ' 0 20 6 = 0) (h19 : kq_rI μ' 0 20 19 = kq_rI μ 0 20 19) : kM_at μ' (kz_sett (kz_seth z v) 0 (kz_t z)) := by
  have o : ∀ b, b ≠ 20 → b ≠ 21 → b ≠ 31 → ¬ ((0 : Nat) = 0 ∧ (b = 20 ∨ b = 21 ∨ b = 31)) := fun b h1 h2 h3 q => by omega
  refine ⟨h1, h19.trans h.b, fun hb => (h.k hb).fr hf (o 30 (by decide) (by decide) (by decide)), h6, fun j hj => absurd hj (by show ¬ j < 0; omega), fun s hs => ?_, fun s hs => ?_, fun s hs j hj => ?_, fun k hk => ?_⟩
  · rw [hf.1 _ _ _ (o 26 (by decide) (by decide) (by decide))]; exact h.B s hs
  · rw [hf.1 _ _ _ (o 27 (by decide) (by decide) (by decide))]; exact h.L s hs
  · rw [hf.2.1 _ _ _ (o 28 (by decide) (by decide) (by decide))]; exact h.N s hs j hj
  · rw [hf.1 _ _ _ (o 22 (by decide) (by decide) (by decide))]; exact h.f k hk
theorem ko_M_inquest (hz : kz_ok z) : kM_ct km_M_inquest [] z (sp_inquest z).2 (kq_I (sp_inquest z).1) := by
  intro μ Q ha k
  have hv := hz.1.1
  have hT := kz_tp hz
  have hn := hT.1
  unfold sp_inquest at k
  generalize hR : tk_all (kz_t z) (kz_n z) 121 0 (kz_h z) 0 = R at k
  generalize hn0 : kz_n z = n at hT hn hR
  generalize ht0 : kz_t z = t at hT hR k
  have hF : ∀ {μ1 : kq_M}, kq_fr (fun a b => a = 0 ∧ (b = 20 ∨ b = 21 ∨ b = 31)) μ μ1 → kq_fr kM_P μ μ1 := fun h => h.mono (fun a b q => by show 20 ≤ b; omega)
  refine ke_M_inquest ?_
  refine ks_M_inquest_0 <| ks_M_inquest_1 <| ks_M_inquest_2 <| ks_M_inquest_3 <| ks_M_inquest_6 (Nat.le_of_ble_eq_true rfl) ?_
  refine kt_M_keep (i := 31) rfl rfl rfl rfl (by decide) (fun μ1 e1 f1 => ?_)
  have a1 : kr_at μ1 21 (kz_h z) := ha.h.fr f1 (fun q => by cases q.2)
  have b1 : kr_at μ1 31 (kz_h z) := ha.h.cp hv.1 e1
  have f31 : ∀ {μ3 : kq_M}, kR_h μ1 μ3 → kq_fr (fun a b => a = 0 ∧ (b = 20 ∨ b = 21 ∨ b = 31)) μ μ3 ∧ kq_rI μ3 0 20 19 = kq_rI μ 0 20 19 ∧ kr_at μ3 31 (kz_h z) := fun {μ3} h => ⟨(f1.mono (fun a b q => ⟨q.1, Or.inr (Or.inr q.2)⟩)).tr (h.1.mono (fun a b q => ⟨q.1, by omega⟩)), h.2.2.trans (f1.1 _ _ _ (fun q => by cases q.2)), b1.fr h.1 (fun q => by omega)⟩
  have bad : ∀ (μ3 : kq_M) (T3 : tk_T) (g : Bool) (x y : Int32), tk_o T3 ≤ 4 → kR_V t n μ3 T3 g → kR_h μ1 μ3 → (g = false ∨ tk_o T3 ≠ 0) → (-1 - nI (tk_a T3), none) = R → kq_S km_M_inquest 11 71 [some (kq_R 0 20), some (kq_I x), some (kq_I y)] [] μ3 Q := by
    intro μ3 T3 g x y h4 V3 f3 hg e
    subst e
    have fin : kq_S km_M_inquest 11 90 [some (kq_R 0 20), some (kq_I x), some (kq_I y)] [kq_R 0 20] μ3 Q := by
      obtain ⟨F, h19, b3⟩ := f31 f3
      have F4 : kq_fr (fun a b => a = 0 ∧ b = 20) μ3 (kq_wI (kq_wI μ3 0 20 12 0) 0 20 6 0) := (kq_fr.rf.wI ⟨rfl, rfl⟩).wI ⟨rfl, rfl⟩
      have w : ∀ c, c ≠ 6 → c ≠ 12 → kq_rI (kq_wI (kq_wI μ3 0 20 12 0) 0 20 6 0) 0 20 c = kq_rI μ3 0 20 c := fun c h1 h2 => (kc_wr (fun q => h1 q.2)).trans (kc_wr (fun q => h2 q.2))
      have b4 : kr_at (kq_wI (kq_wI μ3 0 20 12 0) 0 20 6 0) 31 (kz_h z) := b3.fr F4 (fun q => by cases q.2)
      refine ks_M_inquest_90 <| ks_M_inquest_91 (by first | exact kq_b01' _ | exact Or.inl rfl | exact Or.inr rfl | assumption) <| ks_M_inquest_94 <| ks_M_inquest_95 <| ks_M_inquest_96 <| ks_M_inquest_99 <| ks_M_inquest_100 <| ks_M_inquest_103 (fun h103 => ?_) (fun h103 => ?_)
      · exact absurd ((kc_wr (fun q => absurd q.2 (by decide))).trans kc_ws) h103
      · refine ks_M_inquest_106 <| ks_M_inquest_107 <| ks_M_inquest_108 <| ks_M_inquest_109 <| ks_M_inquest_112 (Nat.le_of_ble_eq_true rfl) ?_
        refine kt_M_back (i := 31) rfl rfl rfl rfl (by decide) (fun μ5 e5 f5 => ?_)
        have o : ∀ c, kq_rI μ5 0 20 c = kq_rI (kq_wI (kq_wI μ3 0 20 12 0) 0 20 6 0) 0 20 c := fun c => f5.1 _ _ _ (fun q => by cases q.2)
        refine ks_M_inquest_115 <| ks_M_inquest_116 <| ks_M_inquest_117 <| ks_M_inquest_120 <| ks_M_inquest_121 ?_
        rw [o 8, w 8 (by decide) (by decide), V3.2.2.1]
        have FF : kq_fr (fun a b => a = 0 ∧ (b = 20 ∨ b = 21 ∨ b = 31)) μ μ5 := (F.tr (F4.mono (fun a b q => ⟨q.1, Or.inl q.2⟩))).tr (f5.mono (fun a b q => ⟨q.1, Or.inr (Or.inl q.2)⟩))
        have A := ha.text (v := kz_h z) (b4.cp hv.1 e5) FF ((o 6).trans kc_ws) ((o 19).trans ((w 19 (by decide) (by decide)).trans h19))
        rw [ht0] at A
        exact k μ5 A (hF FF)
    refine ks_M_inquest_71 <| ks_M_inquest_72 <| ks_M_inquest_73 <| ks_M_inquest_76 (fun h76 => ?_) (fun h76 => ?_)
    · exact fin
    · rw [V3.2.2.2.2.2.2] at h76
      have hg' := kq_b_t h76
      refine ks_M_inquest_79 <| ks_M_inquest_80 <| ks_M_inquest_83 (fun h83 => ?_) (fun h83 => ?_)
      · exact fin
      · rw [V3.2.1, kR_so0 h4] at h83
        rcases hg with q | q
        · rw [hg'] at q; exact absurd q (by decide)
        · exact absurd h83 q
  have well : ∀ (μ3 : kq_M) (T3 : tk_T) (v3 : kh_S) (x y : Int32), tk_o T3 = 0 → kR_V t n μ3 T3 true → kr_at μ3 21 v3 → kR_h μ1 μ3 → (x, some v3) = R → kq_S km_M_inquest 11 71 [some (kq_R 0 20), some (kq_I x), some (kq_I y)] [] μ3 Q := by
    intro μ3 T3 v3 x y h0 V3 a3 f3 e
    subst e
    refine ks_M_inquest_71 <| ks_M_inquest_72 <| ks_M_inquest_73 <| ks_M_inquest_76 (fun h76 => ?_) (fun h76 => ?_)
    · exact absurd (V3.2.2.2.2.2.2.symm.trans h76) (by decide)
    · refine ks_M_inquest_79 <| ks_M_inquest_80 <| ks_M_inquest_83 (fun h83 => ?_) (fun h83 => ?_)
      · rw [V3.2.1, kR_so0 (by omega)] at h83
        exact absurd h0 h83
      · obtain ⟨F, h19, b3⟩ := f31 f3
        have F4 : kq_fr (fun a b => a = 0 ∧ b = 20) μ3 (kq_wI (kq_wI μ3 0 20 12 1) 0 20 6 0) := (kq_fr.rf.wI ⟨rfl, rfl⟩).wI ⟨rfl, rfl⟩
        have w : ∀ c, c ≠ 6 → c ≠ 12 → kq_rI (kq_wI (kq_wI μ3 0 20 12 1) 0 20 6 0) 0 20 c = kq_rI μ3 0 20 c := fun c h1 h2 => (kc_wr (fun q => h1 q.2)).trans (kc_wr (fun q => h2 q.2))
        refine ks_M_inquest_86 <| ks_M_inquest_87 <| ks_M_inquest_91 (by first | exact kq_b01' _ | exact Or.inl rfl | exact Or.inr rfl | assumption) <| ks_M_inquest_94 <| ks_M_inquest_95 <| ks_M_inquest_96 <| ks_M_inquest_99 <| ks_M_inquest_100 <| ks_M_inquest_103 (fun h103 => ?_) (fun h103 => ?_)
        · refine ks_M_inquest_122 <| ks_M_inquest_123 ?_
          have FF : kq_fr (fun a b => a = 0 ∧ (b = 20 ∨ b = 21 ∨ b = 31)) μ (kq_wI (kq_wI μ3 0 20 12 1) 0 20 6 0) := F.tr (F4.mono (fun a b q => ⟨q.1, Or.inl q.2⟩))
          have A := ha.text (v := v3) (a3.fr F4 (fun q => by cases q.2)) FF kc_ws ((w 19 (by decide) (by decide)).trans h19)
          rw [ht0] at A
          exact k _ A (hF FF)
        · exact absurd (((kc_wr (fun q => absurd q.2 (by decide))).trans kc_ws).symm.trans h103) (by decide)
  have loop : ∀ (q i : Nat) (v1 : kh_S) (p : Nat) (μ2 : kq_M), p ≤ n → n - p < q → i ≤ p → kh_ok v1 → kR_in t n μ2 → kr_at μ2 21 v1 → kq_rI μ2 0 20 9 = nI p → kq_rI μ2 0 20 12 = 1 → kR_h μ1 μ2 → tk_all t n q i v1 p = R → kq_S km_M_inquest 11 23 [some (kq_R 0 20), some (kq_I (nI i)), some (kq_I 1)] [] μ2 Q := by
    intro q
    induction q with
    | zero => intro i v1 p μ2 hp hq; omega
    | succ q ih =>
      intro i v1 p μ2 hp hq hi o1 i2 a2 h9 h12 f2 e
      have hf : tk_fr t n p (tk_at t n p) := ⟨p, Nat.le_refl _, hp, rfl⟩
      have io := tk_item_ok hf o1
      unfold tk_all at e
      refine ks_M_inquest_23 <| ks_M_inquest_24 (fun h24 => ?_) (fun h24 => ?_)
      · exact absurd h24 (by decide)
      · refine ks_M_inquest_27 <| ks_M_inquest_28 (Nat.le_of_ble_eq_true rfl) ?_
        refine kt_M_advance hT i2 hp h9 (fun μ3 i3 T3 f3 => ?_)
        have S3 : kR_S t n μ3 (tk_at t n p) true := ⟨i3, T3, (f3.2 12 (by decide)).trans h12⟩
        refine ks_M_inquest_31 <| ks_M_inquest_32 (Nat.le_of_ble_eq_true rfl) ?_
        refine kt_M_wantItem hT S3 hf (f3.f.row a2) o1.1 (fun μ4 r4 => ?_)
        generalize tk_item t n v1 (tk_at t n p) = A at io e r4
        obtain ⟨gd, V4, f4, hg1, hg2⟩ := r4
        have f5 := (f2.tr f3.f.h).tr f4
        have ae := io.2.1.ae
        have o4 := ae.2.2.2.2
        have off : ∀ x : Int32, kq_S km_M_inquest 11 71 [some (kq_R 0 20), some (kq_I x), some (kq_I 0)] [] μ4 Q → kq_S km_M_inquest 11 66 [some (kq_R 0 20), some (kq_I x), some (kq_I 1)] [] μ4 Q := by
          intro x hx
          refine ks_M_inquest_66 <| ks_M_inquest_67 rfl <| ks_M_inquest_68 ?_
          refine ks_M_inquest_23 <| ks_M_inquest_24 (fun h24 => ?_) (fun h24 => ?_)
          · exact hx
          · exact absurd rfl h24
        refine ks_M_inquest_35n rfl <| ks_M_inquest_38 <| ks_M_inquest_39 <| ks_M_inquest_42 (fun h42 => ?_) (fun h42 => ?_)
        · rw [V4.2.2.2.2.2.2] at h42
          have hg := kq_b_f h42
          refine off _ (bad μ4 A.2.2 gd _ _ o4 V4 f5 (Or.inl hg) ?_)
          rcases hg2 hg with y | y
          · rw [if_pos y] at e
            exact e
          · by_cases hA : A.1 = false
            · rw [if_pos hA] at e
              exact e
            · rw [if_neg hA, if_neg (by omega), if_neg (by omega)] at e
              exact e
        · rw [V4.2.2.2.2.2.2] at h42
          have hg := kq_b_t h42
          subst hg
          obtain ⟨hA, a4⟩ := hg1 rfl
          rw [if_neg (by rw [hA]; decide)] at e
          refine ks_M_inquest_45 <| ks_M_inquest_46 <| ks_M_inquest_49 <| ks_M_inquest_50 (fun h50 => ?_) (fun h50 => ?_)
          · rw [V4.2.1, kR_so3 o4] at h50
            rw [if_neg (by omega)] at e
            by_cases h0 : tk_o A.2.2 = 0
            · rw [if_pos h0] at e
              exact off _ (well μ4 A.2.2 A.2.1 _ _ h0 V4 a4 f5 e)
            · rw [if_neg h0] at e
              exact off _ (bad μ4 A.2.2 true _ _ o4 V4 f5 (Or.inr h0) e)
          · rw [V4.2.1, kR_so3 o4] at h50
            refine ks_M_inquest_53 <| ks_M_inquest_54 <| ks_M_inquest_57 <| ks_M_inquest_59 (fun h59 => ?_) (fun h59 => ?_)
            · have h3 : ¬ tk_o A.2.2 = 3 := fun y => h59 (V4.2.2.2.2.1 y)
              rw [if_neg h3, if_neg (by omega)] at e
              exact off _ (bad μ4 A.2.2 true _ _ o4 V4 f5 (Or.inr (by omega)) e)
            · have h3 : tk_o A.2.2 = 3 := by
                rcases h50 with y | y
                · exact y
                · exact absurd h59 (V4.2.2.2.2.2.1 y)
              rw [if_pos h3] at e
              have ae2 := (io.1 hA).ae
              have := ae2.2.2.2.1 (by omega)
              refine ks_M_inquest_62 <| ks_M_inquest_63 <| ks_M_inquest_67 rfl <| ks_M_inquest_68 ?_
              exact ih (i + 1) A.2.1 (tk_e A.2.2) μ4 ae.2.2.1 (by omega) (by omega) io.2.2.1 V4.1 a4 V4.2.2.2.1 V4.2.2.2.2.2.2 f5 e
  have hi1 : kR_in t n μ1 := ⟨(f1.1 _ _ _ (fun q => by cases q.2)).trans (ha.n.trans (by rw [hn0])), fun j hj => (f1.1 _ _ _ (fun q => by cases q.2)).trans ((ha.t j (by rw [hn0]; exact hj)).trans (by rw [ht0]))⟩
  refine ks_M_inquest_9 <| ks_M_inquest_10 <| ks_M_inquest_11 <| ks_M_inquest_14 <| ks_M_inquest_15 <| ks_M_inquest_16 <| ks_M_inquest_19 <| ks_M_inquest_20 rfl <| ks_M_inquest_21 <| ks_M_inquest_22 rfl ?_
  refine loop 121 0 (kz_h z) 0 _ (by omega) (by omega) (by omega) hv ⟨?_, fun j hj => ?_⟩ ?_ ?_ kc_ws ⟨(kq_fr.rf.wI ⟨rfl, Or.inl rfl⟩).wI ⟨rfl, Or.inl rfl⟩, ?_, ?_⟩ hR
  · rw [kc_wr (fun q => absurd q.2 (by decide)), kc_wr (fun q => absurd q.2 (by decide))]; exact hi1.1
  · rw [kc_wr (fun q => absurd q.1 (by decide)), kc_wr (fun q => absurd q.1 (by decide))]; exact hi1.2 j hj
  · exact a1.fr (P := fun a b => a = 0 ∧ b = 20) ((kq_fr.rf.wI ⟨rfl, rfl⟩).wI ⟨rfl, rfl⟩) (fun q => by cases q.2)
  · rw [kc_wr (fun q => absurd q.2 (by decide)), kc_ws]; rfl
  · rw [kc_wr (fun q => absurd q.2 (by decide)), kc_wr (fun q => absurd q.2 (by decide))]
  · rw [kc_wr (fun q => absurd q.2 (by decide)), kc_wr (fun q => absurd q.2 (by decide))]
end KM24
