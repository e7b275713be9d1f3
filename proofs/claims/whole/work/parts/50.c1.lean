/-! The class: arms, asks, readers, tapes -/
def nsF (c : HP) (j : Nat) : Int32 := if mI c 0 8 j = 0 then mI c 0 5 j else mI c 0 6 j
def sjC (c : HP) (j : Nat) (t r fr to hw : Int32) : HP := wI (wI (wI (wI (wI (wI c 0 3 j t) 0 4 j r) 0 5 j fr) 0 6 j to) 0 7 j hw) 0 8 j 0
def goC (c : HP) (j : Nat) (w : Int32) : HP := wI (wI c 0 1 j (mI c 0 1 j + w)) 0 2 j (mI c 0 2 j + 1)
section ZC1
variable {l : Launch} {D : DD} {d : Nat} {c : HP} {M : MD} {Q : List Value → HP → Prop}
theorem sp_aJob {j : Nat} (ha : mA c 0 j = true) (H : Q [.int (bi (¬ mI c 0 3 j = -1))] (pm c M)) : K_X0_hasJob l D (d + 1) [.ref (ob 0 j)] (pm c M) Q := by
  refine m_X0_hasJob (lsA := [.ref (ob 0 j)]) rfl (Nat.le_of_ble_eq_true rfl) ?_
  intro X h0 h12 h13
  apply h0
  simp only [B_X0_hasJob_0, o_al, o_gf, o_ic, o_ic2, nth_0, mV_0_3, al_0, cI_0, ix_0, cats_nil, cats_cons, rf_s, rf_n, isR_r, isR_n, isR_rf, cat_i, cat_l, cat_r, cat_n, cat_rf, unl_i, unl_l, unl_r, unl_n, unl_j, unl_rf, orf_r, orf_n, orf_rf, rf_null, mA_pm, mL_pm, mP_pm, List.length_cons, List.length_nil, List.cons_append, List.nil_append, Nat.reduceAdd, Nat.reduceLeDiff, Nat.reduceLT, Nat.reduceEqDiff, Nat.zero_add, Nat.add_zero, Nat.le_refl, Nat.zero_le, true_and, and_true, true_or, or_true, false_or, or_false, reduceIte, ha]
  refine ⟨fun q => ?_, fun q => ?_⟩
  · apply h12
    simp only [B_X0_hasJob_12, o_ic, cats_nil, cats_cons, rf_s, rf_n, isR_r, isR_n, isR_rf, cat_i, cat_l, cat_r, cat_n, cat_rf, unl_i, unl_l, unl_r, unl_n, unl_j, unl_rf, orf_r, orf_n, orf_rf, rf_null, mA_pm, mL_pm, mP_pm, List.length_cons, List.length_nil, List.cons_append, List.nil_append, Nat.reduceAdd, Nat.reduceLeDiff, Nat.reduceLT, Nat.reduceEqDiff, Nat.zero_add, Nat.add_zero, Nat.le_refl, Nat.zero_le, true_and, and_true, true_or, or_true, false_or, or_false, reduceIte]
    apply h13
    simp only [B_X0_hasJob_13, o_zret, cats_nil, cats_cons, rf_s, rf_n, isR_r, isR_n, isR_rf, cat_i, cat_l, cat_r, cat_n, cat_rf, unl_i, unl_l, unl_r, unl_n, unl_j, unl_rf, orf_r, orf_n, orf_rf, rf_null, mA_pm, mL_pm, mP_pm, List.length_cons, List.length_nil, List.cons_append, List.nil_append, Nat.reduceAdd, Nat.reduceLeDiff, Nat.reduceLT, Nat.reduceEqDiff, Nat.zero_add, Nat.add_zero, Nat.le_refl, Nat.zero_le, true_and, and_true, true_or, or_true, false_or, or_false, reduceIte]
    rw [bi_f (fun z => z q)] at H
    exact H
  · apply h13
    simp only [B_X0_hasJob_13, o_zret, cats_nil, cats_cons, rf_s, rf_n, isR_r, isR_n, isR_rf, cat_i, cat_l, cat_r, cat_n, cat_rf, unl_i, unl_l, unl_r, unl_n, unl_j, unl_rf, orf_r, orf_n, orf_rf, rf_null, mA_pm, mL_pm, mP_pm, List.length_cons, List.length_nil, List.cons_append, List.nil_append, Nat.reduceAdd, Nat.reduceLeDiff, Nat.reduceLT, Nat.reduceEqDiff, Nat.zero_add, Nat.add_zero, Nat.le_refl, Nat.zero_le, true_and, and_true, true_or, or_true, false_or, or_false, reduceIte]
    rw [bi_t q] at H
    exact H
theorem sp_startJob {j : Nat} (ha : mA c 0 j = true) (t r fr to hw : Int32) (hb : hw = 0 ∨ hw = 1) (H : Q [] (pm (sjC c j t r fr to hw) M)) : K_X0_startJob l D (d + 1) [.ref (ob 0 j), .int t, .int r, .int fr, .int to, .int hw] (pm c M) Q := by
  refine m_X0_startJob (lsA := [.ref (ob 0 j), .int t, .int r, .int fr, .int to, .int hw]) rfl (Nat.le_of_ble_eq_true rfl) ?_
  intro X h0
  apply h0
  simp only [B_X0_startJob_0, o_al, o_il, o_pI, o_pZ, o_ic, o_vret, nth_0, nth_1, nth_2, nth_3, nth_4, nth_5, al_0, ix_0, cw_0, cats_nil, cats_cons, rf_s, rf_n, isR_r, isR_n, isR_rf, cat_i, cat_l, cat_r, cat_n, cat_rf, unl_i, unl_l, unl_r, unl_n, unl_j, unl_rf, orf_r, orf_n, orf_rf, rf_null, mA_pm, mL_pm, mP_pm, List.length_cons, List.length_nil, List.cons_append, List.nil_append, Nat.reduceAdd, Nat.reduceLeDiff, Nat.reduceLT, Nat.reduceEqDiff, Nat.zero_add, Nat.add_zero, Nat.le_refl, Nat.zero_le, true_and, and_true, true_or, or_true, false_or, or_false, reduceIte, ha, mA_wI]
  exact ⟨hb, H⟩
theorem sp_endJob {j : Nat} (ha : mA c 0 j = true) (H : Q [] (pm (wI c 0 3 j (-1)) M)) : K_X0_endJob l D (d + 1) [.ref (ob 0 j)] (pm c M) Q := by
  refine m_X0_endJob (lsA := [.ref (ob 0 j)]) rfl (Nat.le_of_ble_eq_true rfl) ?_
  intro X h0
  apply h0
  simp only [B_X0_endJob_0, o_al, o_ic, o_pI, o_vret, nth_0, al_0, ix_0, cw_0, cats_nil, cats_cons, rf_s, rf_n, isR_r, isR_n, isR_rf, cat_i, cat_l, cat_r, cat_n, cat_rf, unl_i, unl_l, unl_r, unl_n, unl_j, unl_rf, orf_r, orf_n, orf_rf, rf_null, mA_pm, mL_pm, mP_pm, List.length_cons, List.length_nil, List.cons_append, List.nil_append, Nat.reduceAdd, Nat.reduceLeDiff, Nat.reduceLT, Nat.reduceEqDiff, Nat.zero_add, Nat.add_zero, Nat.le_refl, Nat.zero_le, true_and, and_true, true_or, or_true, false_or, or_false, reduceIte, ha, mA_wI]
  exact H
theorem sp_nextStop {j : Nat} (ha : mA c 0 j = true) (H : Q [.int (nsF c j)] (pm c M)) : K_X0_nextStop l D (d + 1) [.ref (ob 0 j)] (pm c M) Q := by
  refine m_X0_nextStop (lsA := [.ref (ob 0 j)]) rfl (Nat.le_of_ble_eq_true rfl) ?_
  intro X h0 h14 h18
  unfold nsF at H
  apply h0
  simp only [B_X0_nextStop_0, o_al, o_gf, o_if, nth_0, mV_0_8, al_0, cI_0, ix_0, mV_0_6, cats_nil, cats_cons, rf_s, rf_n, isR_r, isR_n, isR_rf, cat_i, cat_l, cat_r, cat_n, cat_rf, unl_i, unl_l, unl_r, unl_n, unl_j, unl_rf, orf_r, orf_n, orf_rf, rf_null, mA_pm, mL_pm, mP_pm, List.length_cons, List.length_nil, List.cons_append, List.nil_append, Nat.reduceAdd, Nat.reduceLeDiff, Nat.reduceLT, Nat.reduceEqDiff, Nat.zero_add, Nat.add_zero, Nat.le_refl, Nat.zero_le, true_and, and_true, true_or, or_true, false_or, or_false, reduceIte, ha]
  refine ⟨fun q => ?_, fun q => ?_⟩
  · rw [if_pos q] at H
    apply h14
    simp only [B_X0_nextStop_14, o_al, o_gf, nth_0, mV_0_5, al_0, cI_0, ix_0, cats_nil, cats_cons, rf_s, rf_n, isR_r, isR_n, isR_rf, cat_i, cat_l, cat_r, cat_n, cat_rf, unl_i, unl_l, unl_r, unl_n, unl_j, unl_rf, orf_r, orf_n, orf_rf, rf_null, mA_pm, mL_pm, mP_pm, List.length_cons, List.length_nil, List.cons_append, List.nil_append, Nat.reduceAdd, Nat.reduceLeDiff, Nat.reduceLT, Nat.reduceEqDiff, Nat.zero_add, Nat.add_zero, Nat.le_refl, Nat.zero_le, true_and, and_true, true_or, or_true, false_or, or_false, reduceIte, ha]
    apply h18
    simp only [B_X0_nextStop_18, o_iret, cats_nil, cats_cons, rf_s, rf_n, isR_r, isR_n, isR_rf, cat_i, cat_l, cat_r, cat_n, cat_rf, unl_i, unl_l, unl_r, unl_n, unl_j, unl_rf, orf_r, orf_n, orf_rf, rf_null, mA_pm, mL_pm, mP_pm, List.length_cons, List.length_nil, List.cons_append, List.nil_append, Nat.reduceAdd, Nat.reduceLeDiff, Nat.reduceLT, Nat.reduceEqDiff, Nat.zero_add, Nat.add_zero, Nat.le_refl, Nat.zero_le, true_and, and_true, true_or, or_true, false_or, or_false, reduceIte]
    exact H
  · rw [if_neg q] at H
    apply h18
    simp only [B_X0_nextStop_18, o_iret, cats_nil, cats_cons, rf_s, rf_n, isR_r, isR_n, isR_rf, cat_i, cat_l, cat_r, cat_n, cat_rf, unl_i, unl_l, unl_r, unl_n, unl_j, unl_rf, orf_r, orf_n, orf_rf, rf_null, mA_pm, mL_pm, mP_pm, List.length_cons, List.length_nil, List.cons_append, List.nil_append, Nat.reduceAdd, Nat.reduceLeDiff, Nat.reduceLT, Nat.reduceEqDiff, Nat.zero_add, Nat.add_zero, Nat.le_refl, Nat.zero_le, true_and, and_true, true_or, or_true, false_or, or_false, reduceIte]
    exact H
theorem sp_go {j : Nat} (ha : mA c 0 j = true) (w : Int32) (H : Q [] (pm (goC c j w) M)) : K_X0_go l D (d + 1) [.ref (ob 0 j), .int w] (pm c M) Q := by
  refine m_X0_go (lsA := [.ref (ob 0 j), .int w]) rfl (Nat.le_of_ble_eq_true rfl) ?_
  intro X h0
  apply h0
  simp only [B_X0_go_0, o_al, o_dup, o_gf, o_il, o_ii, o_pI, o_ic, o_vret, nth_0, nth_1, mV_0_1, al_0, cI_0, ix_0, mV_0_2, cw_0, cats_nil, cats_cons, rf_s, rf_n, isR_r, isR_n, isR_rf, cat_i, cat_l, cat_r, cat_n, cat_rf, unl_i, unl_l, unl_r, unl_n, unl_j, unl_rf, orf_r, orf_n, orf_rf, rf_null, mA_pm, mL_pm, mP_pm, List.length_cons, List.length_nil, List.cons_append, List.nil_append, Nat.reduceAdd, Nat.reduceLeDiff, Nat.reduceLT, Nat.reduceEqDiff, Nat.zero_add, Nat.add_zero, Nat.le_refl, Nat.zero_le, true_and, and_true, true_or, or_true, false_or, or_false, reduceIte, ha, mA_wI, mI_wI, false_and, and_false]
  exact H
theorem sp_least {j : Nat} (ha : mA c 0 j = true) (H : Q [.int (lo3 (mI c 0 1 j) (nsF c j) (mI c 0 6 j))] (pm c M)) : K_X0_least l D (d + 2) [.ref (ob 0 j)] (pm c M) Q := by
  refine m_X0_least (lsA := [.ref (ob 0 j)]) rfl (Nat.le_of_ble_eq_true rfl) ?_
  intro X h0
  apply h0
  simp only [B_X0_least_0, o_al, o_gf, o_m2, o_iret, nth_0, opV_0, mV_0_1, al_0, cI_0, ix_0, mV_0_6, cats_nil, cats_cons, rf_s, rf_n, isR_r, isR_n, isR_rf, cat_i, cat_l, cat_r, cat_n, cat_rf, unl_i, unl_l, unl_r, unl_n, unl_j, unl_rf, orf_r, orf_n, orf_rf, rf_null, mA_pm, mL_pm, mP_pm, List.length_cons, List.length_nil, List.cons_append, List.nil_append, Nat.reduceAdd, Nat.reduceLeDiff, Nat.reduceLT, Nat.reduceEqDiff, Nat.zero_add, Nat.add_zero, Nat.le_refl, Nat.zero_le, true_and, and_true, true_or, or_true, false_or, or_false, reduceIte, ha]
  refine sp_nextStop ha ?_
  simp only [o_al, o_gf, o_m2, o_iret, nth_0, opV_0, mV_0_1, al_0, cI_0, ix_0, mV_0_6, cats_nil, cats_cons, rf_s, rf_n, isR_r, isR_n, isR_rf, cat_i, cat_l, cat_r, cat_n, cat_rf, unl_i, unl_l, unl_r, unl_n, unl_j, unl_rf, orf_r, orf_n, orf_rf, rf_null, mA_pm, mL_pm, mP_pm, List.length_cons, List.length_nil, List.cons_append, List.nil_append, Nat.reduceAdd, Nat.reduceLeDiff, Nat.reduceLT, Nat.reduceEqDiff, Nat.zero_add, Nat.add_zero, Nat.le_refl, Nat.zero_le, true_and, and_true, true_or, or_true, false_or, or_false, reduceIte, ha]
  exact H
theorem sp_greatest {j : Nat} (ha : mA c 0 j = true) (H : Q [.int (hi3 (mI c 0 1 j) (nsF c j) (mI c 0 6 j))] (pm c M)) : K_X0_greatest l D (d + 2) [.ref (ob 0 j)] (pm c M) Q := by
  refine m_X0_greatest (lsA := [.ref (ob 0 j)]) rfl (Nat.le_of_ble_eq_true rfl) ?_
  intro X h0
  apply h0
  simp only [B_X0_greatest_0, o_al, o_gf, o_m2, o_iret, nth_0, opV_0, mV_0_1, al_0, cI_0, ix_0, mV_0_6, cats_nil, cats_cons, rf_s, rf_n, isR_r, isR_n, isR_rf, cat_i, cat_l, cat_r, cat_n, cat_rf, unl_i, unl_l, unl_r, unl_n, unl_j, unl_rf, orf_r, orf_n, orf_rf, rf_null, mA_pm, mL_pm, mP_pm, List.length_cons, List.length_nil, List.cons_append, List.nil_append, Nat.reduceAdd, Nat.reduceLeDiff, Nat.reduceLT, Nat.reduceEqDiff, Nat.zero_add, Nat.add_zero, Nat.le_refl, Nat.zero_le, true_and, and_true, true_or, or_true, false_or, or_false, reduceIte, ha]
  refine sp_nextStop ha ?_
  simp only [o_al, o_gf, o_m2, o_iret, nth_0, opV_0, mV_0_1, al_0, cI_0, ix_0, mV_0_6, cats_nil, cats_cons, rf_s, rf_n, isR_r, isR_n, isR_rf, cat_i, cat_l, cat_r, cat_n, cat_rf, unl_i, unl_l, unl_r, unl_n, unl_j, unl_rf, orf_r, orf_n, orf_rf, rf_null, mA_pm, mL_pm, mP_pm, List.length_cons, List.length_nil, List.cons_append, List.nil_append, Nat.reduceAdd, Nat.reduceLeDiff, Nat.reduceLT, Nat.reduceEqDiff, Nat.zero_add, Nat.add_zero, Nat.le_refl, Nat.zero_le, true_and, and_true, true_or, or_true, false_or, or_false, reduceIte, ha]
  exact H
theorem sp_isScrub {j : Nat} (ha : mA c 1 j = true) (H : Q [.int (bi (mI c 1 0 j = 3))] (pm c M)) : K_X1_isScrub l D (d + 1) [.ref (ob 1 j)] (pm c M) Q := by
  refine m_X1_isScrub (lsA := [.ref (ob 1 j)]) rfl (Nat.le_of_ble_eq_true rfl) ?_
  intro X h0 h12 h13
  apply h0
  simp only [B_X1_isScrub_0, o_al, o_gf, o_ic, o_ic2, nth_0, mV_1_0, al_1, cI_1, ix_1, cats_nil, cats_cons, rf_s, rf_n, isR_r, isR_n, isR_rf, cat_i, cat_l, cat_r, cat_n, cat_rf, unl_i, unl_l, unl_r, unl_n, unl_j, unl_rf, orf_r, orf_n, orf_rf, rf_null, mA_pm, mL_pm, mP_pm, List.length_cons, List.length_nil, List.cons_append, List.nil_append, Nat.reduceAdd, Nat.reduceLeDiff, Nat.reduceLT, Nat.reduceEqDiff, Nat.zero_add, Nat.add_zero, Nat.le_refl, Nat.zero_le, true_and, and_true, true_or, or_true, false_or, or_false, reduceIte, ha]
  refine ⟨fun q => ?_, fun q => ?_⟩
  · rw [bi_t q] at H
    apply h13
    simp only [B_X1_isScrub_13, o_zret, cats_nil, cats_cons, rf_s, rf_n, isR_r, isR_n, isR_rf, cat_i, cat_l, cat_r, cat_n, cat_rf, unl_i, unl_l, unl_r, unl_n, unl_j, unl_rf, orf_r, orf_n, orf_rf, rf_null, mA_pm, mL_pm, mP_pm, List.length_cons, List.length_nil, List.cons_append, List.nil_append, Nat.reduceAdd, Nat.reduceLeDiff, Nat.reduceLT, Nat.reduceEqDiff, Nat.zero_add, Nat.add_zero, Nat.le_refl, Nat.zero_le, true_and, and_true, true_or, or_true, false_or, or_false, reduceIte]
    exact H
  · rw [bi_f q] at H
    apply h12
    simp only [B_X1_isScrub_12, o_ic, cats_nil, cats_cons, rf_s, rf_n, isR_r, isR_n, isR_rf, cat_i, cat_l, cat_r, cat_n, cat_rf, unl_i, unl_l, unl_r, unl_n, unl_j, unl_rf, orf_r, orf_n, orf_rf, rf_null, mA_pm, mL_pm, mP_pm, List.length_cons, List.length_nil, List.cons_append, List.nil_append, Nat.reduceAdd, Nat.reduceLeDiff, Nat.reduceLT, Nat.reduceEqDiff, Nat.zero_add, Nat.add_zero, Nat.le_refl, Nat.zero_le, true_and, and_true, true_or, or_true, false_or, or_false, reduceIte]
    apply h13
    simp only [B_X1_isScrub_13, o_zret, cats_nil, cats_cons, rf_s, rf_n, isR_r, isR_n, isR_rf, cat_i, cat_l, cat_r, cat_n, cat_rf, unl_i, unl_l, unl_r, unl_n, unl_j, unl_rf, orf_r, orf_n, orf_rf, rf_null, mA_pm, mL_pm, mP_pm, List.length_cons, List.length_nil, List.cons_append, List.nil_append, Nat.reduceAdd, Nat.reduceLeDiff, Nat.reduceLT, Nat.reduceEqDiff, Nat.zero_add, Nat.add_zero, Nat.le_refl, Nat.zero_le, true_and, and_true, true_or, or_true, false_or, or_false, reduceIte]
    exact H
theorem sp_worthAtOnce {j : Nat} (ha : mA c 1 j = true) (H : Q [.int (if mI c 1 0 j = 4 then 100 else 10)] (pm c M)) : K_X1_worthAtOnce l D (d + 1) [.ref (ob 1 j)] (pm c M) Q := by
  refine m_X1_worthAtOnce (lsA := [.ref (ob 1 j)]) rfl (Nat.le_of_ble_eq_true rfl) ?_
  intro X h0 h13 h15
  apply h0
  simp only [B_X1_worthAtOnce_0, o_al, o_gf, o_ic, o_ic2, nth_0, mV_1_0, al_1, cI_1, ix_1, cats_nil, cats_cons, rf_s, rf_n, isR_r, isR_n, isR_rf, cat_i, cat_l, cat_r, cat_n, cat_rf, unl_i, unl_l, unl_r, unl_n, unl_j, unl_rf, orf_r, orf_n, orf_rf, rf_null, mA_pm, mL_pm, mP_pm, List.length_cons, List.length_nil, List.cons_append, List.nil_append, Nat.reduceAdd, Nat.reduceLeDiff, Nat.reduceLT, Nat.reduceEqDiff, Nat.zero_add, Nat.add_zero, Nat.le_refl, Nat.zero_le, true_and, and_true, true_or, or_true, false_or, or_false, reduceIte, ha]
  refine ⟨fun q => ?_, fun q => ?_⟩
  · rw [if_pos q] at H
    apply h15
    simp only [B_X1_worthAtOnce_15, o_iret, cats_nil, cats_cons, rf_s, rf_n, isR_r, isR_n, isR_rf, cat_i, cat_l, cat_r, cat_n, cat_rf, unl_i, unl_l, unl_r, unl_n, unl_j, unl_rf, orf_r, orf_n, orf_rf, rf_null, mA_pm, mL_pm, mP_pm, List.length_cons, List.length_nil, List.cons_append, List.nil_append, Nat.reduceAdd, Nat.reduceLeDiff, Nat.reduceLT, Nat.reduceEqDiff, Nat.zero_add, Nat.add_zero, Nat.le_refl, Nat.zero_le, true_and, and_true, true_or, or_true, false_or, or_false, reduceIte]
    exact H
  · rw [if_neg q] at H
    apply h13
    simp only [B_X1_worthAtOnce_13, o_ic, cats_nil, cats_cons, rf_s, rf_n, isR_r, isR_n, isR_rf, cat_i, cat_l, cat_r, cat_n, cat_rf, unl_i, unl_l, unl_r, unl_n, unl_j, unl_rf, orf_r, orf_n, orf_rf, rf_null, mA_pm, mL_pm, mP_pm, List.length_cons, List.length_nil, List.cons_append, List.nil_append, Nat.reduceAdd, Nat.reduceLeDiff, Nat.reduceLT, Nat.reduceEqDiff, Nat.zero_add, Nat.add_zero, Nat.le_refl, Nat.zero_le, true_and, and_true, true_or, or_true, false_or, or_false, reduceIte]
    apply h15
    simp only [B_X1_worthAtOnce_15, o_iret, cats_nil, cats_cons, rf_s, rf_n, isR_r, isR_n, isR_rf, cat_i, cat_l, cat_r, cat_n, cat_rf, unl_i, unl_l, unl_r, unl_n, unl_j, unl_rf, orf_r, orf_n, orf_rf, rf_null, mA_pm, mL_pm, mP_pm, List.length_cons, List.length_nil, List.cons_append, List.nil_append, Nat.reduceAdd, Nat.reduceLeDiff, Nat.reduceLT, Nat.reduceEqDiff, Nat.zero_add, Nat.add_zero, Nat.le_refl, Nat.zero_le, true_and, and_true, true_or, or_true, false_or, or_false, reduceIte]
    exact H
def rchC (c : HP) (j : Nat) (p : Int32) : HP := wI (wI c 1 5 j (if mI c 1 0 j = 3 then 0 else mI c 1 2 j)) 1 6 j (if mI c 1 0 j = 3 then p - 1 else if mI c 1 0 j = 1 then mI c 1 3 j else mI c 1 2 j)
theorem sp_reachOver {j : Nat} (ha : mA c 1 j = true) (p : Int32) (H : Q [] (pm (rchC c j p) M)) : K_X1_reachOver l D (d + 1) [.ref (ob 1 j), .int p] (pm c M) Q := by
  refine m_X1_reachOver (lsA := [.ref (ob 1 j), .int p]) rfl (Nat.le_of_ble_eq_true rfl) ?_
  intro X h0 h13 h17 h35 h50 h54
  unfold rchC at H
  apply h0
  simp only [B_X1_reachOver_0, o_al, o_gf, o_ic, o_ic2, nth_0, mV_1_0, al_1, cI_1, ix_1, cats_nil, cats_cons, rf_s, rf_n, isR_r, isR_n, isR_rf, cat_i, cat_l, cat_r, cat_n, cat_rf, unl_i, unl_l, unl_r, unl_n, unl_j, unl_rf, orf_r, orf_n, orf_rf, rf_null, mA_pm, mL_pm, mP_pm, List.length_cons, List.length_nil, List.cons_append, List.nil_append, Nat.reduceAdd, Nat.reduceLeDiff, Nat.reduceLT, Nat.reduceEqDiff, Nat.zero_add, Nat.add_zero, Nat.le_refl, Nat.zero_le, true_and, and_true, true_or, or_true, false_or, or_false, reduceIte, ha]
  refine ⟨fun q => ?_, fun q => ?_⟩
  · rw [if_pos q, if_pos q] at H
    apply h17
    simp only [B_X1_reachOver_17, o_pI, o_al, o_gf, o_ic, o_ic2, o_il, o_ii, nth_0, nth_1, mV_1_0, al_1, cI_1, ix_1, cw_1, cats_nil, cats_cons, rf_s, rf_n, isR_r, isR_n, isR_rf, cat_i, cat_l, cat_r, cat_n, cat_rf, unl_i, unl_l, unl_r, unl_n, unl_j, unl_rf, orf_r, orf_n, orf_rf, rf_null, mA_pm, mL_pm, mP_pm, List.length_cons, List.length_nil, List.cons_append, List.nil_append, Nat.reduceAdd, Nat.reduceLeDiff, Nat.reduceLT, Nat.reduceEqDiff, Nat.zero_add, Nat.add_zero, Nat.le_refl, Nat.zero_le, true_and, and_true, true_or, or_true, false_or, or_false, reduceIte, ha, mA_wI, mI_wI, false_and, and_false]
    refine ⟨fun _ => ?_, fun z => absurd q z⟩
    apply h54
    simp only [B_X1_reachOver_54, o_pI, o_vret, al_1, ix_1, cw_1, cats_nil, cats_cons, rf_s, rf_n, isR_r, isR_n, isR_rf, cat_i, cat_l, cat_r, cat_n, cat_rf, unl_i, unl_l, unl_r, unl_n, unl_j, unl_rf, orf_r, orf_n, orf_rf, rf_null, mA_pm, mL_pm, mP_pm, List.length_cons, List.length_nil, List.cons_append, List.nil_append, Nat.reduceAdd, Nat.reduceLeDiff, Nat.reduceLT, Nat.reduceEqDiff, Nat.zero_add, Nat.add_zero, Nat.le_refl, Nat.zero_le, true_and, and_true, true_or, or_true, false_or, or_false, reduceIte, ha, mA_wI]
    exact H
  · rw [if_neg q, if_neg q] at H
    apply h13
    simp only [B_X1_reachOver_13, o_al, o_gf, nth_0, mV_1_2, al_1, cI_1, ix_1, cats_nil, cats_cons, rf_s, rf_n, isR_r, isR_n, isR_rf, cat_i, cat_l, cat_r, cat_n, cat_rf, unl_i, unl_l, unl_r, unl_n, unl_j, unl_rf, orf_r, orf_n, orf_rf, rf_null, mA_pm, mL_pm, mP_pm, List.length_cons, List.length_nil, List.cons_append, List.nil_append, Nat.reduceAdd, Nat.reduceLeDiff, Nat.reduceLT, Nat.reduceEqDiff, Nat.zero_add, Nat.add_zero, Nat.le_refl, Nat.zero_le, true_and, and_true, true_or, or_true, false_or, or_false, reduceIte, ha]
    apply h17
    simp only [B_X1_reachOver_17, o_pI, o_al, o_gf, o_ic, o_ic2, o_il, o_ii, nth_0, nth_1, mV_1_0, al_1, cI_1, ix_1, cw_1, cats_nil, cats_cons, rf_s, rf_n, isR_r, isR_n, isR_rf, cat_i, cat_l, cat_r, cat_n, cat_rf, unl_i, unl_l, unl_r, unl_n, unl_j, unl_rf, orf_r, orf_n, orf_rf, rf_null, mA_pm, mL_pm, mP_pm, List.length_cons, List.length_nil, List.cons_append, List.nil_append, Nat.reduceAdd, Nat.reduceLeDiff, Nat.reduceLT, Nat.reduceEqDiff, Nat.zero_add, Nat.add_zero, Nat.le_refl, Nat.zero_le, true_and, and_true, true_or, or_true, false_or, or_false, reduceIte, ha, mA_wI, mI_wI, false_and, and_false]
    refine ⟨fun z => absurd z q, fun _ => ?_⟩
    apply h35
    simp only [B_X1_reachOver_35, o_al, o_gf, o_ic, o_ic2, nth_0, mV_1_0, al_1, cI_1, ix_1, mV_1_3, cats_nil, cats_cons, rf_s, rf_n, isR_r, isR_n, isR_rf, cat_i, cat_l, cat_r, cat_n, cat_rf, unl_i, unl_l, unl_r, unl_n, unl_j, unl_rf, orf_r, orf_n, orf_rf, rf_null, mA_pm, mL_pm, mP_pm, List.length_cons, List.length_nil, List.cons_append, List.nil_append, Nat.reduceAdd, Nat.reduceLeDiff, Nat.reduceLT, Nat.reduceEqDiff, Nat.zero_add, Nat.add_zero, Nat.le_refl, Nat.zero_le, true_and, and_true, true_or, or_true, false_or, or_false, reduceIte, ha, mA_wI, mI_wI, false_and, and_false]
    refine ⟨fun z => ?_, fun z => ?_⟩
    · rw [if_pos z] at H
      apply h54
      simp only [B_X1_reachOver_54, o_pI, o_vret, al_1, ix_1, cw_1, cats_nil, cats_cons, rf_s, rf_n, isR_r, isR_n, isR_rf, cat_i, cat_l, cat_r, cat_n, cat_rf, unl_i, unl_l, unl_r, unl_n, unl_j, unl_rf, orf_r, orf_n, orf_rf, rf_null, mA_pm, mL_pm, mP_pm, List.length_cons, List.length_nil, List.cons_append, List.nil_append, Nat.reduceAdd, Nat.reduceLeDiff, Nat.reduceLT, Nat.reduceEqDiff, Nat.zero_add, Nat.add_zero, Nat.le_refl, Nat.zero_le, true_and, and_true, true_or, or_true, false_or, or_false, reduceIte, ha, mA_wI]
      exact H
    · rw [if_neg z] at H
      apply h50
      simp only [B_X1_reachOver_50, o_al, o_gf, nth_0, mV_1_2, al_1, cI_1, ix_1, cats_nil, cats_cons, rf_s, rf_n, isR_r, isR_n, isR_rf, cat_i, cat_l, cat_r, cat_n, cat_rf, unl_i, unl_l, unl_r, unl_n, unl_j, unl_rf, orf_r, orf_n, orf_rf, rf_null, mA_pm, mL_pm, mP_pm, List.length_cons, List.length_nil, List.cons_append, List.nil_append, Nat.reduceAdd, Nat.reduceLeDiff, Nat.reduceLT, Nat.reduceEqDiff, Nat.zero_add, Nat.add_zero, Nat.le_refl, Nat.zero_le, true_and, and_true, true_or, or_true, false_or, or_false, reduceIte, ha, mA_wI, mI_wI, false_and, and_false]
      apply h54
      simp only [B_X1_reachOver_54, o_pI, o_vret, al_1, ix_1, cw_1, cats_nil, cats_cons, rf_s, rf_n, isR_r, isR_n, isR_rf, cat_i, cat_l, cat_r, cat_n, cat_rf, unl_i, unl_l, unl_r, unl_n, unl_j, unl_rf, orf_r, orf_n, orf_rf, rf_null, mA_pm, mL_pm, mP_pm, List.length_cons, List.length_nil, List.cons_append, List.nil_append, Nat.reduceAdd, Nat.reduceLeDiff, Nat.reduceLT, Nat.reduceEqDiff, Nat.zero_add, Nat.add_zero, Nat.le_refl, Nat.zero_le, true_and, and_true, true_or, or_true, false_or, or_false, reduceIte, ha, mA_wI]
      exact H
theorem sp_workLeft {j : Nat} (ha : mA c 3 j = true) (H : Q [.int (mI c 3 5 j - mI c 3 4 j)] (pm c M)) : K_X3_workLeft l D (d + 1) [.ref (ob 3 j)] (pm c M) Q := by
  refine m_X3_workLeft (lsA := [.ref (ob 3 j)]) rfl (Nat.le_of_ble_eq_true rfl) ?_
  intro X h0
  apply h0
  simp only [B_X3_workLeft_0, o_al, o_gf, o_ii, o_iret, nth_0, mV_3_5, al_3, cI_3, ix_3, mV_3_4, cats_nil, cats_cons, rf_s, rf_n, isR_r, isR_n, isR_rf, cat_i, cat_l, cat_r, cat_n, cat_rf, unl_i, unl_l, unl_r, unl_n, unl_j, unl_rf, orf_r, orf_n, orf_rf, rf_null, mA_pm, mL_pm, mP_pm, List.length_cons, List.length_nil, List.cons_append, List.nil_append, Nat.reduceAdd, Nat.reduceLeDiff, Nat.reduceLT, Nat.reduceEqDiff, Nat.zero_add, Nat.add_zero, Nat.le_refl, Nat.zero_le, true_and, and_true, true_or, or_true, false_or, or_false, reduceIte, ha]
  exact H
def efC (c : HP) (j : Nat) (w : Int32) : HP := wI (wI (wI c 3 4 j (mI c 3 4 j + 1)) 3 6 j 0) 3 7 j w
theorem sp_endFirst {j : Nat} (ha : mA c 3 j = true) (w : Int32) (H : Q [] (pm (efC c j w) M)) : K_X3_endFirst l D (d + 1) [.ref (ob 3 j), .int w] (pm c M) Q := by
  refine m_X3_endFirst (lsA := [.ref (ob 3 j), .int w]) rfl (Nat.le_of_ble_eq_true rfl) ?_
  intro X h0
  apply h0
  simp only [B_X3_endFirst_0, o_al, o_dup, o_gf, o_ic, o_ii, o_pI, o_il, o_vret, nth_0, nth_1, mV_3_4, al_3, cI_3, ix_3, cw_3, cats_nil, cats_cons, rf_s, rf_n, isR_r, isR_n, isR_rf, cat_i, cat_l, cat_r, cat_n, cat_rf, unl_i, unl_l, unl_r, unl_n, unl_j, unl_rf, orf_r, orf_n, orf_rf, rf_null, mA_pm, mL_pm, mP_pm, List.length_cons, List.length_nil, List.cons_append, List.nil_append, Nat.reduceAdd, Nat.reduceLeDiff, Nat.reduceLT, Nat.reduceEqDiff, Nat.zero_add, Nat.add_zero, Nat.le_refl, Nat.zero_le, true_and, and_true, true_or, or_true, false_or, or_false, reduceIte, ha, mA_wI]
  exact H
def dwC (c : HP) (j : Nat) : HP := wI (wI (wI (wI c 3 4 j 0) 3 5 j 0) 3 6 j 0) 3 7 j 0
theorem sp_dropWork {j : Nat} (ha : mA c 3 j = true) (H : Q [] (pm (dwC c j) M)) : K_X3_dropWork l D (d + 1) [.ref (ob 3 j)] (pm c M) Q := by
  refine m_X3_dropWork (lsA := [.ref (ob 3 j)]) rfl (Nat.le_of_ble_eq_true rfl) ?_
  intro X h0
  apply h0
  simp only [B_X3_dropWork_0, o_al, o_ic, o_pI, o_vret, nth_0, al_3, ix_3, cw_3, cats_nil, cats_cons, rf_s, rf_n, isR_r, isR_n, isR_rf, cat_i, cat_l, cat_r, cat_n, cat_rf, unl_i, unl_l, unl_r, unl_n, unl_j, unl_rf, orf_r, orf_n, orf_rf, rf_null, mA_pm, mL_pm, mP_pm, List.length_cons, List.length_nil, List.cons_append, List.nil_append, Nat.reduceAdd, Nat.reduceLeDiff, Nat.reduceLT, Nat.reduceEqDiff, Nat.zero_add, Nat.add_zero, Nat.le_refl, Nat.zero_le, true_and, and_true, true_or, or_true, false_or, or_false, reduceIte, ha, mA_wI]
  exact H
theorem sp_isFree {j : Nat} (ha : mA c 5 j = true) (H : Q [.int (bi (mI c 5 5 j = 0 ∧ mI c 5 6 j = 0))] (pm c M)) : K_X5_isFree l D (d + 1) [.ref (ob 5 j)] (pm c M) Q := by
  refine m_X5_isFree (lsA := [.ref (ob 5 j)]) rfl (Nat.le_of_ble_eq_true rfl) ?_
  intro X h0 h18 h19
  have k18 : ¬ (mI c 5 5 j = 0 ∧ mI c 5 6 j = 0) → X 18 [.ref (ob 5 j)] [] (pm c M) 0 0 := by
    intro q
    rw [bi_f q] at H
    apply h18
    simp only [B_X5_isFree_18, o_ic, cats_nil, cats_cons, rf_s, rf_n, isR_r, isR_n, isR_rf, cat_i, cat_l, cat_r, cat_n, cat_rf, unl_i, unl_l, unl_r, unl_n, unl_j, unl_rf, orf_r, orf_n, orf_rf, rf_null, mA_pm, mL_pm, mP_pm, List.length_cons, List.length_nil, List.cons_append, List.nil_append, Nat.reduceAdd, Nat.reduceLeDiff, Nat.reduceLT, Nat.reduceEqDiff, Nat.zero_add, Nat.add_zero, Nat.le_refl, Nat.zero_le, true_and, and_true, true_or, or_true, false_or, or_false, reduceIte]
    apply h19
    simp only [B_X5_isFree_19, o_zret, cats_nil, cats_cons, rf_s, rf_n, isR_r, isR_n, isR_rf, cat_i, cat_l, cat_r, cat_n, cat_rf, unl_i, unl_l, unl_r, unl_n, unl_j, unl_rf, orf_r, orf_n, orf_rf, rf_null, mA_pm, mL_pm, mP_pm, List.length_cons, List.length_nil, List.cons_append, List.nil_append, Nat.reduceAdd, Nat.reduceLeDiff, Nat.reduceLT, Nat.reduceEqDiff, Nat.zero_add, Nat.add_zero, Nat.le_refl, Nat.zero_le, true_and, and_true, true_or, or_true, false_or, or_false, reduceIte]
    exact H
  apply h0
  simp only [B_X5_isFree_0, o_al, o_gf, o_if, o_ic, nth_0, mV_5_5, al_5, cI_5, ix_5, mV_5_6, cats_nil, cats_cons, rf_s, rf_n, isR_r, isR_n, isR_rf, cat_i, cat_l, cat_r, cat_n, cat_rf, unl_i, unl_l, unl_r, unl_n, unl_j, unl_rf, orf_r, orf_n, orf_rf, rf_null, mA_pm, mL_pm, mP_pm, List.length_cons, List.length_nil, List.cons_append, List.nil_append, Nat.reduceAdd, Nat.reduceLeDiff, Nat.reduceLT, Nat.reduceEqDiff, Nat.zero_add, Nat.add_zero, Nat.le_refl, Nat.zero_le, true_and, and_true, true_or, or_true, false_or, or_false, reduceIte, ha]
  refine ⟨fun q => ⟨fun q2 => ?_, fun q2 => k18 (fun z => q2 z.2)⟩, fun q => k18 (fun z => q z.1)⟩
  rw [bi_t ⟨q, q2⟩] at H
  apply h19
  simp only [B_X5_isFree_19, o_zret, cats_nil, cats_cons, rf_s, rf_n, isR_r, isR_n, isR_rf, cat_i, cat_l, cat_r, cat_n, cat_rf, unl_i, unl_l, unl_r, unl_n, unl_j, unl_rf, orf_r, orf_n, orf_rf, rf_null, mA_pm, mL_pm, mP_pm, List.length_cons, List.length_nil, List.cons_append, List.nil_append, Nat.reduceAdd, Nat.reduceLeDiff, Nat.reduceLT, Nat.reduceEqDiff, Nat.zero_add, Nat.add_zero, Nat.le_refl, Nat.zero_le, true_and, and_true, true_or, or_true, false_or, or_false, reduceIte]
  exact H
def absF (x : Int32) : Int32 := if 0 ≤ x then x else 0 - x
theorem sp_worth5 {j : Nat} (ha : mA c 5 j = true) (n s : Int32) (H : Q [.int (mI c 5 7 j * n + mI c 5 8 j - 2 * absF (mI c 5 0 j - s))] (pm c M)) : K_X5_worth l D (d + 1) [.ref (ob 5 j), .int n, .int s] (pm c M) Q := by
  refine m_X5_worth (lsA := [.ref (ob 5 j), .int n, .int s]) rfl (Nat.le_of_ble_eq_true rfl) ?_
  intro X h0
  apply h0
  simp only [B_X5_worth_0, o_al, o_gf, o_il, o_ii, o_ic, o_m1, o_iret, nth_0, nth_1, nth_2, mV_5_7, al_5, cI_5, ix_5, mV_5_8, mV_5_0, cats_nil, cats_cons, rf_s, rf_n, isR_r, isR_n, isR_rf, cat_i, cat_l, cat_r, cat_n, cat_rf, unl_i, unl_l, unl_r, unl_n, unl_j, unl_rf, orf_r, orf_n, orf_rf, rf_null, mA_pm, mL_pm, mP_pm, List.length_cons, List.length_nil, List.cons_append, List.nil_append, Nat.reduceAdd, Nat.reduceLeDiff, Nat.reduceLT, Nat.reduceEqDiff, Nat.zero_add, Nat.add_zero, Nat.le_refl, Nat.zero_le, true_and, and_true, true_or, or_true, false_or, or_false, reduceIte, ha]
  exact H
end ZC1
