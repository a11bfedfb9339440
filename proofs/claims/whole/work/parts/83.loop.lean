/-! THE LAW: its loop (by gen82.py) -/
theorem kl_sub {L : Nat} (hL : L ≤ 3072) : (nI L - 6).toInt = (L : Int) - 6 := by
  by_cases h : L < 6
  · have : ∀ L, L < 6 → (nI L - 6).toInt = (L : Int) - 6 := by decide
    exact this L h
  · rw [show (6 : Int32) = nI 6 from rfl, kn_sub (by omega) (by omega), nI_toInt (by omega)]
    omega
theorem kl_loop {L : Nat} {xs : Nat → Int32} (hL : L ≤ 3072) : ∀ (q i : Nat) (μ : kq_M) (z : kz_S), L < i + q → i ≤ L → kl_I L xs μ z → kq_S km_law 12 18 [some (kq_R 0 40), some (kq_R 0 0), some (kq_R 0 20), some (kq_I (nI i))] [] μ kl_Q := by
  intro q
  induction q with
  | zero => intro i μ z h1 h2; omega
  | succ q ih =>
    intro i μ z h1 h2 I
    have hs := I.2.2.2
    have hc : (kq_sc μ).1 = L := by rw [hs]
    refine ks_law_18 <| ks_law_19 <| ks_law_20 <| ks_law_21 <| ks_law_23 <| ks_law_24 (fun h24 => ?_) (fun h24 => ?_)
    · refine ks_law_1284 <| ks_law_1285 ?_
      exact rfl
    · rw [hc, ki_lt, kl_sub hL, nI_toInt (by omega)] at h24
      have hi : i + 6 ≤ L := by omega
      have next : ∀ (μ' : kq_M) (z' : kz_S), kl_I L xs μ' z' → kq_S km_law 12 1278 [some (kq_R 0 40), some (kq_R 0 0), some (kq_R 0 20), some (kq_I (nI i))] [] μ' kl_Q := by
        intro μ' z' I'
        refine ks_law_1278 rfl <| ks_law_1281 ?_
        rw [kl_x6]
        exact ih (i + 6) μ' z' (by omega) hi I'
      have hj : i < (kq_sc μ).1 := by rw [hc]; omega
      have hb : (kq_sc μ).1 < 2 ^ 31 := by rw [hc]; omega
      refine ks_law_27 <| ks_law_28 <| ks_law_29 i rfl hj hb <| ks_law_30 <| ks_law_32 <| ks_law_33 (fun h33 => ?_) (fun h33 => ?_) (fun h33 => ?_) (fun h33 => ?_) (fun h33 => ?_) (fun h33 => ?_) (fun h33 => ?_) (fun h33 => ?_) (fun h33 => ?_) (fun h33 => ?_) (fun h33 => ?_) (fun h33 => ?_) (fun h33 => ?_) (fun h33 => ?_) (fun h33 => ?_) (fun h33 => ?_) (fun h33 => ?_) (fun h33 => ?_) (fun h33 => ?_) (fun h33 => ?_) (fun h33 => ?_) (fun h33 => ?_) (fun h33 => ?_) (fun h33 => ?_) (fun h33 => ?_) (fun h33 => ?_) (fun h33 => ?_) (fun h33 => ?_) (fun h33 => ?_) (fun h33 => ?_) (fun h33 => ?_) (fun h33 => ?_) (fun h33 => ?_) (fun h33 => ?_) (fun h33 => ?_) (fun h33 => ?_) (fun h33 => ?_) (fun h33 => ?_)
      · exact kl_truth hL hi I next
      · exact kl_kettle hL hi I next
      · exact kl_witness hL hi I next
      · exact kl_of hL hi I next
      · exact kl_set hL hi I next
      · exact kl_turn hL hi I next
      · exact kl_as hL hi I next
      · exact kl_heats hL hi I next
      · exact kl_ask hL hi I next
      · exact kl_swap hL hi I next
      · exact kl_minutes hL hi I next
      · exact kl_now hL hi I next
      · exact kl_on hL hi I next
      · exact kl_then hL hi I next
      · exact kl_boils hL hi I next
      · exact kl_doubts hL hi I next
      · exact kl_worst hL hi I next
      · exact kl_turns hL hi I next
      · exact kl_sure hL hi I next
      · exact kl_water hL hi I next
      · exact kl_kind hL hi I next
      · exact kl_says hL hi I next
      · exact kl_fact hL hi I next
      · exact kl_feed hL hi I next
      · exact kl_wipe hL hi I next
      · exact kl_inquest hL hi I next
      · exact kl_sheet hL hi I next
      · exact kl_write hL hi I next
      · exact kl_copy hL hi I next
      · exact kl_lays hL hi I next
      · exact kl_book hL hi I next
      · exact kl_read hL hi I next
      · exact kl_image hL hi I next
      · exact kl_undo hL hi I next
      · exact kl_tear hL hi I next
      · exact kl_count hL hi I next
      · exact kl_status hL hi I next
      · exact next μ z I
