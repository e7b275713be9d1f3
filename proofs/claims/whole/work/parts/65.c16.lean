/-! The class: what waits -/
def cwC (c : HP) (k t : Nat) (b : Int32) : HP := if mI c 1 0 k = 3 then wI (wI c 6 13 0 (-1)) 6 15 0 (mI c 6 15 0 + b) else wI (wI (wI (wI c 6 13 0 (-1)) 6 14 0 (mI c 6 14 0 + b)) 5 7 t (mI c 5 7 t + b)) 5 8 t (mI c 5 8 t + b * ((if mI c 1 0 k = 4 then 100 else 10) - mI c 1 4 k))
section ZC16
variable {l : Launch} {D : DD} {d : Nat} {c : HP} {M : MD} {Q : List Value → HP → Prop}
theorem sp_changeWaiting (hc : SKF c) {nT nR nA k t : Nat} (hd : SKD c nT nR nA) (hT2 : nT ≤ 12) (hk : k < nA) (ht : t < nT) (h11 : mI c 1 1 k = nI t) (b : Int32) (H : Q [] (pm (cwC c k t b) M)) : K_X6_changeWaiting l D (d + 2) [.ref (ob 6 0), .ref (ob 1 k), .int b] (pm c M) Q := by
  refine m_X6_changeWaiting (lsA := [.ref (ob 6 0), .ref (ob 1 k), .int b, jk]) rfl (Nat.le_of_ble_eq_true rfl) ?_
  intro X h0 h23 h76
  have ha := hd.2.2.2.2.2 k hk
  have hat := hd.2.2.2.1 t ht
  unfold cwC at H
  apply h0
  simp only [B_X6_changeWaiting_0, o_al, o_ic, o_pI, o_if, o_dup, o_gf, o_il, o_ii, o_vret, nth_0, nth_1, nth_2, opV_0, mV_6_15, al_6, cI_6, hc.a6, ix_6, al_1, ix_1, cw_6, cats_nil, cats_cons, rf_s, rf_n, isR_r, isR_n, isR_rf, cat_i, cat_l, cat_r, cat_n, cat_rf, unl_i, unl_l, unl_r, unl_n, unl_j, unl_rf, orf_r, orf_n, orf_rf, rf_null, mA_pm, mL_pm, mP_pm, List.length_cons, List.length_nil, List.cons_append, List.nil_append, Nat.reduceAdd, Nat.reduceLeDiff, Nat.reduceLT, Nat.reduceEqDiff, Nat.zero_add, Nat.add_zero, Nat.le_refl, Nat.zero_le, true_and, and_true, true_or, or_true, false_or, or_false, reduceIte, mA_wI, ha, al_1]
  refine sp_isScrub ha ?_
  simp only [o_al, o_ic, o_pI, o_if, o_dup, o_gf, o_il, o_ii, o_vret, nth_0, nth_1, nth_2, opV_0, mV_6_15, al_6, cI_6, hc.a6, ix_6, al_1, ix_1, cw_6, cats_nil, cats_cons, rf_s, rf_n, isR_r, isR_n, isR_rf, cat_i, cat_l, cat_r, cat_n, cat_rf, unl_i, unl_l, unl_r, unl_n, unl_j, unl_rf, orf_r, orf_n, orf_rf, rf_null, mA_pm, mL_pm, mP_pm, List.length_cons, List.length_nil, List.cons_append, List.nil_append, Nat.reduceAdd, Nat.reduceLeDiff, Nat.reduceLT, Nat.reduceEqDiff, Nat.zero_add, Nat.add_zero, Nat.le_refl, Nat.zero_le, true_and, and_true, true_or, or_true, false_or, or_false, reduceIte, mA_wI, mI_wI, Nat.reduceEqDiff, and_false, false_and]
  refine ⟨fun q => ?_, fun q => ?_⟩
  · have q' : ¬ mI c 1 0 k = 3 := bi_e0 q
    rw [if_neg q'] at H
    apply h23
    simp only [B_X6_changeWaiting_23, o_al, o_dup, o_gf, o_il, o_ii, o_pI, o_as, o_ifn, nth_0, nth_2, nth_1, lset_3, nth_3, opV_1, opV_0, mV_6_14, al_6, cI_6, hc.a6, ix_6, mV_1_1, al_1, cI_1, ix_1, mV_5_7, al_5, cI_5, ix_5, mV_5_8, mV_1_4, cw_6, cw_5, cats_nil, cats_cons, rf_s, rf_n, isR_r, isR_n, isR_rf, cat_i, cat_l, cat_r, cat_n, cat_rf, unl_i, unl_l, unl_r, unl_n, unl_j, unl_rf, orf_r, orf_n, orf_rf, rf_null, mA_pm, mL_pm, mP_pm, List.length_cons, List.length_nil, List.cons_append, List.nil_append, Nat.reduceAdd, Nat.reduceLeDiff, Nat.reduceLT, Nat.reduceEqDiff, Nat.zero_add, Nat.add_zero, Nat.le_refl, Nat.zero_le, true_and, and_true, true_or, or_true, false_or, or_false, reduceIte, mA_wI, mI_wI, Nat.reduceEqDiff, and_false, false_and, ha, h11]
    refine sp_tapeAt (c := wI (wI c 6 13 0 (-1)) 6 14 0 (mI c 6 14 0 + b)) (nT := nT) (nR := nR) (nA := nA) hc hd hT2 (nI t) (fun r hr => ?_)
    rcases hr with ⟨t', ht', e, rfl⟩ | ⟨hn, -⟩
    · rw [nI_eq_iff] at e
      subst e
      simp only [o_al, o_dup, o_gf, o_il, o_ii, o_pI, o_as, o_ifn, nth_0, nth_2, nth_1, lset_3, nth_3, opV_1, opV_0, mV_6_14, al_6, cI_6, hc.a6, ix_6, mV_1_1, al_1, cI_1, ix_1, mV_5_7, al_5, cI_5, ix_5, mV_5_8, mV_1_4, cw_6, cw_5, cats_nil, cats_cons, rf_s, rf_n, isR_r, isR_n, isR_rf, cat_i, cat_l, cat_r, cat_n, cat_rf, unl_i, unl_l, unl_r, unl_n, unl_j, unl_rf, orf_r, orf_n, orf_rf, rf_null, mA_pm, mL_pm, mP_pm, List.length_cons, List.length_nil, List.cons_append, List.nil_append, Nat.reduceAdd, Nat.reduceLeDiff, Nat.reduceLT, Nat.reduceEqDiff, Nat.zero_add, Nat.add_zero, Nat.le_refl, Nat.zero_le, true_and, and_true, true_or, or_true, false_or, or_false, reduceIte, mA_wI, mI_wI, Nat.reduceEqDiff, and_false, false_and, ha, hat, rnn, false_imp_iff, not_false_eq_true, true_imp_iff, al_5]
      refine sp_worthAtOnce ha ?_
      simp only [o_al, o_dup, o_gf, o_il, o_ii, o_pI, o_as, o_ifn, nth_0, nth_2, nth_1, lset_3, nth_3, opV_1, opV_0, mV_6_14, al_6, cI_6, hc.a6, ix_6, mV_1_1, al_1, cI_1, ix_1, mV_5_7, al_5, cI_5, ix_5, mV_5_8, mV_1_4, cw_6, cw_5, cats_nil, cats_cons, rf_s, rf_n, isR_r, isR_n, isR_rf, cat_i, cat_l, cat_r, cat_n, cat_rf, unl_i, unl_l, unl_r, unl_n, unl_j, unl_rf, orf_r, orf_n, orf_rf, rf_null, mA_pm, mL_pm, mP_pm, List.length_cons, List.length_nil, List.cons_append, List.nil_append, Nat.reduceAdd, Nat.reduceLeDiff, Nat.reduceLT, Nat.reduceEqDiff, Nat.zero_add, Nat.add_zero, Nat.le_refl, Nat.zero_le, true_and, and_true, true_or, or_true, false_or, or_false, reduceIte, mA_wI, mI_wI, Nat.reduceEqDiff, and_false, false_and, ha, hat]
      apply h76
      simp only [B_X6_changeWaiting_76, o_vret, cats_nil, cats_cons, rf_s, rf_n, isR_r, isR_n, isR_rf, cat_i, cat_l, cat_r, cat_n, cat_rf, unl_i, unl_l, unl_r, unl_n, unl_j, unl_rf, orf_r, orf_n, orf_rf, rf_null, mA_pm, mL_pm, mP_pm, List.length_cons, List.length_nil, List.cons_append, List.nil_append, Nat.reduceAdd, Nat.reduceLeDiff, Nat.reduceLT, Nat.reduceEqDiff, Nat.zero_add, Nat.add_zero, Nat.le_refl, Nat.zero_le, true_and, and_true, true_or, or_true, false_or, or_false, reduceIte]
      exact H
    · exact absurd rfl (hn t ht)
  · have q' : mI c 1 0 k = 3 := bi_ne0 q
    rw [if_pos q'] at H
    exact H
end ZC16
