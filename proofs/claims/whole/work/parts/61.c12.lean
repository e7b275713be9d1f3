/-! The class: the shelf's items; a tape's numbers; a reader's work -/
def itC (c : HP) (n : Nat) (x y : Int32) : HP := wI (wI (wI (wI (wI c 16 n 0 x) 17 n 0 y) 4 5 0 (mI c 4 5 0 + y)) 4 7 0 0) 4 4 0 (nI (n + 1))
def emC (c : HP) : HP := wI (wJ (wI (wI c 4 4 0 0) 4 5 0 0) 4 6 0 0) 4 7 0 1
theorem cut_i (k b : Int32) : cutF k b.toInt64 = if k = 0 then b.toInt8.toInt32.toInt64 else if k = 1 then b.toInt16.toInt32.toInt64 else b.toInt64 := by
  unfold cutF
  simp only [Int32.toInt32_toInt64]
  by_cases h0 : k = 0
  · rw [if_pos h0, if_pos h0]
  · rw [if_neg h0, if_neg h0]
    by_cases h1 : k = 1
    · rw [if_pos h1, if_pos h1]
    · rw [if_neg h1, if_neg h1]
      split <;> rfl
section ZC12
variable {l : Launch} {D : DD} {d : Nat} {c : HP} {M : MD} {Q : List Value → HP → Prop}
theorem sp_isFull4 (hc : SKF c) {n : Nat} (h : mI c 4 4 0 = nI n) (hn : n ≤ 8) (H : Q [.int (bi (¬ n < 8))] (pm c M)) : K_X4_isFull l D (d + 1) [.ref (ob 4 0)] (pm c M) Q := by
  refine m_X4_isFull (lsA := [.ref (ob 4 0)]) rfl (Nat.le_of_ble_eq_true rfl) ?_
  intro X h0 h13 h14
  apply h0
  simp only [B_X4_isFull_0, o_al, o_gf, o_ic, o_ic2, nth_0, mV_4_4, al_4, cI_4, hc.a4, ix_4, cats_nil, cats_cons, rf_s, rf_n, isR_r, isR_n, isR_rf, cat_i, cat_l, cat_r, cat_n, cat_rf, unl_i, unl_l, unl_r, unl_n, unl_j, unl_rf, orf_r, orf_n, orf_rf, rf_null, mA_pm, mL_pm, mP_pm, List.length_cons, List.length_nil, List.cons_append, List.nil_append, Nat.reduceAdd, Nat.reduceLeDiff, Nat.reduceLT, Nat.reduceEqDiff, Nat.zero_add, Nat.add_zero, Nat.le_refl, Nat.zero_le, true_and, and_true, true_or, or_true, false_or, or_false, reduceIte, h]
  have e : (nI n < (8 : Int32)) ↔ n < 8 := by rw [show (8 : Int32) = nI 8 from rfl, nI_lt_iff]
  refine ⟨fun q => ?_, fun q => ?_⟩
  · rw [bi_f (fun z => z (e.mp q))] at H
    apply h13
    simp only [B_X4_isFull_13, o_ic, cats_nil, cats_cons, rf_s, rf_n, isR_r, isR_n, isR_rf, cat_i, cat_l, cat_r, cat_n, cat_rf, unl_i, unl_l, unl_r, unl_n, unl_j, unl_rf, orf_r, orf_n, orf_rf, rf_null, mA_pm, mL_pm, mP_pm, List.length_cons, List.length_nil, List.cons_append, List.nil_append, Nat.reduceAdd, Nat.reduceLeDiff, Nat.reduceLT, Nat.reduceEqDiff, Nat.zero_add, Nat.add_zero, Nat.le_refl, Nat.zero_le, true_and, and_true, true_or, or_true, false_or, or_false, reduceIte]
    apply h14
    simp only [B_X4_isFull_14, o_zret, cats_nil, cats_cons, rf_s, rf_n, isR_r, isR_n, isR_rf, cat_i, cat_l, cat_r, cat_n, cat_rf, unl_i, unl_l, unl_r, unl_n, unl_j, unl_rf, orf_r, orf_n, orf_rf, rf_null, mA_pm, mL_pm, mP_pm, List.length_cons, List.length_nil, List.cons_append, List.nil_append, Nat.reduceAdd, Nat.reduceLeDiff, Nat.reduceLT, Nat.reduceEqDiff, Nat.zero_add, Nat.add_zero, Nat.le_refl, Nat.zero_le, true_and, and_true, true_or, or_true, false_or, or_false, reduceIte]
    exact H
  · rw [bi_t (show ¬ n < 8 from fun z => q (e.mpr z))] at H
    apply h14
    simp only [B_X4_isFull_14, o_zret, cats_nil, cats_cons, rf_s, rf_n, isR_r, isR_n, isR_rf, cat_i, cat_l, cat_r, cat_n, cat_rf, unl_i, unl_l, unl_r, unl_n, unl_j, unl_rf, orf_r, orf_n, orf_rf, rf_null, mA_pm, mL_pm, mP_pm, List.length_cons, List.length_nil, List.cons_append, List.nil_append, Nat.reduceAdd, Nat.reduceLeDiff, Nat.reduceLT, Nat.reduceEqDiff, Nat.zero_add, Nat.add_zero, Nat.le_refl, Nat.zero_le, true_and, and_true, true_or, or_true, false_or, or_false, reduceIte]
    exact H
theorem sp_add4 (hc : SKF c) {n : Nat} (h : mI c 4 4 0 = nI n) (hn : n < 8) (x y : Int32) (H : Q [.int (nI n)] (pm (itC c n x y) M)) : K_X4_add l D (d + 2) [.ref (ob 4 0), .int x, .int y] (pm c M) Q := by
  refine m_X4_add (lsA := [.ref (ob 4 0), .int x, .int y]) rfl (Nat.le_of_ble_eq_true rfl) ?_
  intro X h0
  apply h0
  simp only [B_X4_add_0, o_al, o_gf, o_il, o_dup, o_ii, o_pI, o_ic, o_pZ, o_dupx, o_iret, nth_0, nth_1, nth_2, opS_3, mV_4_0, al_4, hc.p4_0, kd_16, ix_16, hc.l16, cI_16, cw_16, cJ_16, cv_16, hc.a4, ix_4, mV_4_4, cI_4, mV_4_1, hc.p4_1, kd_17, ix_17, hc.l17, cI_17, cw_17, cJ_17, cv_17, mV_4_5, cw_4, cats_nil, cats_cons, rf_s, rf_n, isR_r, isR_n, isR_rf, cat_i, cat_l, cat_r, cat_n, cat_rf, unl_i, unl_l, unl_r, unl_n, unl_j, unl_rf, orf_r, orf_n, orf_rf, rf_null, mA_pm, mL_pm, mP_pm, List.length_cons, List.length_nil, List.cons_append, List.nil_append, Nat.reduceAdd, Nat.reduceLeDiff, Nat.reduceLT, Nat.reduceEqDiff, Nat.zero_add, Nat.add_zero, Nat.le_refl, Nat.zero_le, true_and, and_true, true_or, or_true, false_or, or_false, reduceIte, h]
  refine sp_put (n := 8) (by decide) rfl hc.l16 (by omega) hn _ ?_
  simp only [o_al, o_gf, o_il, o_dup, o_ii, o_pI, o_ic, o_pZ, o_dupx, o_iret, nth_0, nth_1, nth_2, opS_3, mV_4_0, al_4, hc.p4_0, kd_16, ix_16, hc.l16, cI_16, cw_16, cJ_16, cv_16, hc.a4, ix_4, mV_4_4, cI_4, mV_4_1, hc.p4_1, kd_17, ix_17, hc.l17, cI_17, cw_17, cJ_17, cv_17, mV_4_5, cw_4, cats_nil, cats_cons, rf_s, rf_n, isR_r, isR_n, isR_rf, cat_i, cat_l, cat_r, cat_n, cat_rf, unl_i, unl_l, unl_r, unl_n, unl_j, unl_rf, orf_r, orf_n, orf_rf, rf_null, mA_pm, mL_pm, mP_pm, List.length_cons, List.length_nil, List.cons_append, List.nil_append, Nat.reduceAdd, Nat.reduceLeDiff, Nat.reduceLT, Nat.reduceEqDiff, Nat.zero_add, Nat.add_zero, Nat.le_refl, Nat.zero_le, true_and, and_true, true_or, or_true, false_or, or_false, reduceIte, mA_wI, mP_wI, mI_wI, h, false_and]
  refine sp_put (n := 8) (by decide) rfl (by rw [mL_wI]; exact hc.l17) (by omega) hn _ ?_
  simp only [o_al, o_gf, o_il, o_dup, o_ii, o_pI, o_ic, o_pZ, o_dupx, o_iret, nth_0, nth_1, nth_2, opS_3, mV_4_0, al_4, hc.p4_0, kd_16, ix_16, hc.l16, cI_16, cw_16, cJ_16, cv_16, hc.a4, ix_4, mV_4_4, cI_4, mV_4_1, hc.p4_1, kd_17, ix_17, hc.l17, cI_17, cw_17, cJ_17, cv_17, mV_4_5, cw_4, cats_nil, cats_cons, rf_s, rf_n, isR_r, isR_n, isR_rf, cat_i, cat_l, cat_r, cat_n, cat_rf, unl_i, unl_l, unl_r, unl_n, unl_j, unl_rf, orf_r, orf_n, orf_rf, rf_null, mA_pm, mL_pm, mP_pm, List.length_cons, List.length_nil, List.cons_append, List.nil_append, Nat.reduceAdd, Nat.reduceLeDiff, Nat.reduceLT, Nat.reduceEqDiff, Nat.zero_add, Nat.add_zero, Nat.le_refl, Nat.zero_le, true_and, and_true, true_or, or_true, false_or, or_false, reduceIte, mA_wI, mP_wI, mI_wI, h, false_and, nI_1]
  exact H
theorem sp_empty (hc : SKF c) (H : Q [] (pm (emC c) M)) : K_X4_empty l D (d + 1) [.ref (ob 4 0)] (pm c M) Q := by
  refine m_X4_empty (lsA := [.ref (ob 4 0)]) rfl (Nat.le_of_ble_eq_true rfl) ?_
  intro X h0
  apply h0
  simp only [B_X4_empty_0, o_al, o_ic, o_pI, o_lc, o_pJ, o_pZ, o_vret, nth_0, al_4, ix_4, cw_4, hc.a4, cv_4, cats_nil, cats_cons, rf_s, rf_n, isR_r, isR_n, isR_rf, cat_i, cat_l, cat_r, cat_n, cat_rf, unl_i, unl_l, unl_r, unl_n, unl_j, unl_rf, orf_r, orf_n, orf_rf, rf_null, mA_pm, mL_pm, mP_pm, List.length_cons, List.length_nil, List.cons_append, List.nil_append, Nat.reduceAdd, Nat.reduceLeDiff, Nat.reduceLT, Nat.reduceEqDiff, Nat.zero_add, Nat.add_zero, Nat.le_refl, Nat.zero_le, true_and, and_true, true_or, or_true, false_or, or_false, reduceIte, mA_wI, mA_wJ]
  exact H
theorem sp_addWork {j n : Nat} (ha : mA c 3 j = true) (hp : mP c 3 1 j = some (ob 19 j)) (hl : mL c 19 j = 8) (h : mI c 3 5 j = nI n) (hn : n < 8) (x : Int32) (H : Q [] (pm (wI (wI c 19 n j x) 3 5 j (nI (n + 1))) M)) : K_X3_addWork l D (d + 2) [.ref (ob 3 j), .int x] (pm c M) Q := by
  refine m_X3_addWork (lsA := [.ref (ob 3 j), .int x]) rfl (Nat.le_of_ble_eq_true rfl) ?_
  intro X h0
  apply h0
  simp only [B_X3_addWork_0, o_al, o_gf, o_il, o_dup, o_ic, o_ii, o_pI, o_vret, nth_0, nth_1, opS_3, mV_3_1, al_3, kd_19, ix_19, cI_19, cw_19, ix_3, mV_3_5, cI_3, cw_3, cats_nil, cats_cons, rf_s, rf_n, isR_r, isR_n, isR_rf, cat_i, cat_l, cat_r, cat_n, cat_rf, unl_i, unl_l, unl_r, unl_n, unl_j, unl_rf, orf_r, orf_n, orf_rf, rf_null, mA_pm, mL_pm, mP_pm, List.length_cons, List.length_nil, List.cons_append, List.nil_append, Nat.reduceAdd, Nat.reduceLeDiff, Nat.reduceLT, Nat.reduceEqDiff, Nat.zero_add, Nat.add_zero, Nat.le_refl, Nat.zero_le, true_and, and_true, true_or, or_true, false_or, or_false, reduceIte, ha, hp, h]
  refine sp_put (n := 8) (by decide) rfl hl (by omega) hn _ ?_
  simp only [o_al, o_gf, o_il, o_dup, o_ic, o_ii, o_pI, o_vret, nth_0, nth_1, opS_3, mV_3_1, al_3, kd_19, ix_19, cI_19, cw_19, ix_3, mV_3_5, cI_3, cw_3, cats_nil, cats_cons, rf_s, rf_n, isR_r, isR_n, isR_rf, cat_i, cat_l, cat_r, cat_n, cat_rf, unl_i, unl_l, unl_r, unl_n, unl_j, unl_rf, orf_r, orf_n, orf_rf, rf_null, mA_pm, mL_pm, mP_pm, List.length_cons, List.length_nil, List.cons_append, List.nil_append, Nat.reduceAdd, Nat.reduceLeDiff, Nat.reduceLT, Nat.reduceEqDiff, Nat.zero_add, Nat.add_zero, Nat.le_refl, Nat.zero_le, true_and, and_true, true_or, or_true, false_or, or_false, reduceIte, mA_wI, mP_wI, mI_wI, ha, hp, h, false_and, nI_1]
  exact H
theorem sp_at_n (x : Int32) (h : HP) (H : Q [.long 0] h) : K_X6_at_ l D (d + 1) [.null, .int x] h Q := by
  refine m_X6_at_ (lsA := [.null, .int x]) rfl (Nat.le_of_ble_eq_true rfl) ?_
  intro X h0 h20 h21
  apply h0
  simp only [B_X6_at__0, o_al, o_ifn, o_il, o_if, o_alen, o_ic2, o_lald, nth_0, nth_1, cats_nil, cats_cons, rf_s, rf_n, isR_r, isR_n, isR_rf, cat_i, cat_l, cat_r, cat_n, cat_rf, unl_i, unl_l, unl_r, unl_n, unl_j, unl_rf, orf_r, orf_n, orf_rf, rf_null, mA_pm, mL_pm, mP_pm, List.length_cons, List.length_nil, List.cons_append, List.nil_append, Nat.reduceAdd, Nat.reduceLeDiff, Nat.reduceLT, Nat.reduceEqDiff, Nat.zero_add, Nat.add_zero, Nat.le_refl, Nat.zero_le, true_and, and_true, true_or, or_true, false_or, or_false, reduceIte]
  refine ⟨fun _ => ?_, fun z => by first | exact absurd rfl z | exact absurd trivial z⟩
  apply h20
  simp only [B_X6_at__20, o_lc, cats_nil, cats_cons, rf_s, rf_n, isR_r, isR_n, isR_rf, cat_i, cat_l, cat_r, cat_n, cat_rf, unl_i, unl_l, unl_r, unl_n, unl_j, unl_rf, orf_r, orf_n, orf_rf, rf_null, mA_pm, mL_pm, mP_pm, List.length_cons, List.length_nil, List.cons_append, List.nil_append, Nat.reduceAdd, Nat.reduceLeDiff, Nat.reduceLT, Nat.reduceEqDiff, Nat.zero_add, Nat.add_zero, Nat.le_refl, Nat.zero_le, true_and, and_true, true_or, or_true, false_or, or_false, reduceIte]
  apply h21
  simp only [B_X6_at__21, o_lret, cats_nil, cats_cons, rf_s, rf_n, isR_r, isR_n, isR_rf, cat_i, cat_l, cat_r, cat_n, cat_rf, unl_i, unl_l, unl_r, unl_n, unl_j, unl_rf, orf_r, orf_n, orf_rf, rf_null, mA_pm, mL_pm, mP_pm, List.length_cons, List.length_nil, List.cons_append, List.nil_append, Nat.reduceAdd, Nat.reduceLeDiff, Nat.reduceLT, Nat.reduceEqDiff, Nat.zero_add, Nat.add_zero, Nat.le_refl, Nat.zero_le, true_and, and_true, true_or, or_true, false_or, or_false, reduceIte]
  exact H
theorem sp_number {j i n : Nat} (ha : mA c 5 j = true) (hp : mP c 5 3 j = some (ob 89 j)) (hl : mL c 89 j = n) (hn : n ≤ 60) (hi : i < n) (H : Q [.long (mJ c 89 i j)] (pm c M)) : K_X5_number l D (d + 2) [.ref (ob 5 j), .int (nI i)] (pm c M) Q := by
  refine m_X5_number (lsA := [.ref (ob 5 j), .int (nI i)]) rfl (Nat.le_of_ble_eq_true rfl) ?_
  intro X h0
  apply h0
  simp only [B_X5_number_0, o_al, o_gf, o_il, o_lret, nth_0, nth_1, opS_2, mV_5_3, al_5, kd_89, ix_89, cJ_89, cv_89, ix_5, cats_nil, cats_cons, rf_s, rf_n, isR_r, isR_n, isR_rf, cat_i, cat_l, cat_r, cat_n, cat_rf, unl_i, unl_l, unl_r, unl_n, unl_j, unl_rf, orf_r, orf_n, orf_rf, rf_null, mA_pm, mL_pm, mP_pm, List.length_cons, List.length_nil, List.cons_append, List.nil_append, Nat.reduceAdd, Nat.reduceLeDiff, Nat.reduceLT, Nat.reduceEqDiff, Nat.zero_add, Nat.add_zero, Nat.le_refl, Nat.zero_le, true_and, and_true, true_or, or_true, false_or, or_false, reduceIte, ha, hp]
  refine sp_at_ (n := n) (by decide) rfl hl (by omega) hi ?_
  simp only [o_al, o_gf, o_il, o_lret, nth_0, nth_1, opS_2, mV_5_3, al_5, kd_89, ix_89, cJ_89, cv_89, ix_5, cats_nil, cats_cons, rf_s, rf_n, isR_r, isR_n, isR_rf, cat_i, cat_l, cat_r, cat_n, cat_rf, unl_i, unl_l, unl_r, unl_n, unl_j, unl_rf, orf_r, orf_n, orf_rf, rf_null, mA_pm, mL_pm, mP_pm, List.length_cons, List.length_nil, List.cons_append, List.nil_append, Nat.reduceAdd, Nat.reduceLeDiff, Nat.reduceLT, Nat.reduceEqDiff, Nat.zero_add, Nat.add_zero, Nat.le_refl, Nat.zero_le, true_and, and_true, true_or, or_true, false_or, or_false, reduceIte]
  exact H
theorem sp_number_n {j : Nat} (ha : mA c 5 j = true) (hp : mP c 5 3 j = none) (x : Int32) (H : Q [.long 0] (pm c M)) : K_X5_number l D (d + 2) [.ref (ob 5 j), .int x] (pm c M) Q := by
  refine m_X5_number (lsA := [.ref (ob 5 j), .int x]) rfl (Nat.le_of_ble_eq_true rfl) ?_
  intro X h0
  apply h0
  simp only [B_X5_number_0, o_al, o_gf, o_il, o_lret, nth_0, nth_1, opS_2, mV_5_3, al_5, kd_89, ix_89, cJ_89, cv_89, ix_5, cats_nil, cats_cons, rf_s, rf_n, isR_r, isR_n, isR_rf, cat_i, cat_l, cat_r, cat_n, cat_rf, unl_i, unl_l, unl_r, unl_n, unl_j, unl_rf, orf_r, orf_n, orf_rf, rf_null, mA_pm, mL_pm, mP_pm, List.length_cons, List.length_nil, List.cons_append, List.nil_append, Nat.reduceAdd, Nat.reduceLeDiff, Nat.reduceLT, Nat.reduceEqDiff, Nat.zero_add, Nat.add_zero, Nat.le_refl, Nat.zero_le, true_and, and_true, true_or, or_true, false_or, or_false, reduceIte, ha, hp]
  refine sp_at_n _ _ ?_
  simp only [o_al, o_gf, o_il, o_lret, nth_0, nth_1, opS_2, mV_5_3, al_5, kd_89, ix_89, cJ_89, cv_89, ix_5, cats_nil, cats_cons, rf_s, rf_n, isR_r, isR_n, isR_rf, cat_i, cat_l, cat_r, cat_n, cat_rf, unl_i, unl_l, unl_r, unl_n, unl_j, unl_rf, orf_r, orf_n, orf_rf, rf_null, mA_pm, mL_pm, mP_pm, List.length_cons, List.length_nil, List.cons_append, List.nil_append, Nat.reduceAdd, Nat.reduceLeDiff, Nat.reduceLT, Nat.reduceEqDiff, Nat.zero_add, Nat.add_zero, Nat.le_refl, Nat.zero_le, true_and, and_true, true_or, or_true, false_or, or_false, reduceIte]
  exact H
theorem sp_hasNumber {j n : Nat} (ha : mA c 5 j = true) (hp : (mP c 5 3 j = some (ob 89 j) ∧ mL c 89 j = n ∧ n ≤ 60) ∨ (mP c 5 3 j = none ∧ n = 0)) (x : Int32) (H : ∀ r : Int32, (r = 1 ∧ ∃ i, i < n ∧ x = nI i) ∨ (r = 0 ∧ ∀ i, i < n → ¬ x = nI i) → Q [.int r] (pm c M)) : K_X5_hasNumber l D (d + 1) [.ref (ob 5 j), .int x] (pm c M) Q := by
  refine m_X5_hasNumber (lsA := [.ref (ob 5 j), .int x]) rfl (Nat.le_of_ble_eq_true rfl) ?_
  intro X h0 h24 h25
  have k24 : (∀ i, i < n → ¬ x = nI i) → X 24 [.ref (ob 5 j), .int x] [] (pm c M) 0 0 := by
    intro q
    apply h24
    simp only [B_X5_hasNumber_24, o_ic, cats_nil, cats_cons, rf_s, rf_n, isR_r, isR_n, isR_rf, cat_i, cat_l, cat_r, cat_n, cat_rf, unl_i, unl_l, unl_r, unl_n, unl_j, unl_rf, orf_r, orf_n, orf_rf, rf_null, mA_pm, mL_pm, mP_pm, List.length_cons, List.length_nil, List.cons_append, List.nil_append, Nat.reduceAdd, Nat.reduceLeDiff, Nat.reduceLT, Nat.reduceEqDiff, Nat.zero_add, Nat.add_zero, Nat.le_refl, Nat.zero_le, true_and, and_true, true_or, or_true, false_or, or_false, reduceIte]
    apply h25
    simp only [B_X5_hasNumber_25, o_zret, cats_nil, cats_cons, rf_s, rf_n, isR_r, isR_n, isR_rf, cat_i, cat_l, cat_r, cat_n, cat_rf, unl_i, unl_l, unl_r, unl_n, unl_j, unl_rf, orf_r, orf_n, orf_rf, rf_null, mA_pm, mL_pm, mP_pm, List.length_cons, List.length_nil, List.cons_append, List.nil_append, Nat.reduceAdd, Nat.reduceLeDiff, Nat.reduceLT, Nat.reduceEqDiff, Nat.zero_add, Nat.add_zero, Nat.le_refl, Nat.zero_le, true_and, and_true, true_or, or_true, false_or, or_false, reduceIte]
    exact H 0 (Or.inr ⟨rfl, q⟩)
  apply h0
  rcases hp with ⟨hp, hl, hn⟩ | ⟨hp, hn⟩
  · simp only [B_X5_hasNumber_0, o_al, o_gf, o_ifn, o_il, o_if, o_alen, o_ic2, o_ic, nth_0, nth_1, mV_5_3, al_5, kd_89, ix_89, cJ_89, cv_89, ix_5, cats_nil, cats_cons, rf_s, rf_n, isR_r, isR_n, isR_rf, cat_i, cat_l, cat_r, cat_n, cat_rf, unl_i, unl_l, unl_r, unl_n, unl_j, unl_rf, orf_r, orf_n, orf_rf, rf_null, mA_pm, mL_pm, mP_pm, List.length_cons, List.length_nil, List.cons_append, List.nil_append, Nat.reduceAdd, Nat.reduceLeDiff, Nat.reduceLT, Nat.reduceEqDiff, Nat.zero_add, Nat.add_zero, Nat.le_refl, Nat.zero_le, true_and, and_true, true_or, or_true, false_or, or_false, reduceIte, ha, hp, hl, ofN, rnn, false_imp_iff, not_false_eq_true, true_imp_iff]
    refine ⟨fun q => k24 (fun i hi e => ?_), fun q => ⟨fun q2 => k24 (fun i hi e => ?_), fun q2 => ?_⟩⟩
    · rw [e] at q
      exact nI_ge0 (by omega) q
    · rw [e, nI_le_iff] at q2
      omega
    · apply h25
      simp only [B_X5_hasNumber_25, o_zret, cats_nil, cats_cons, rf_s, rf_n, isR_r, isR_n, isR_rf, cat_i, cat_l, cat_r, cat_n, cat_rf, unl_i, unl_l, unl_r, unl_n, unl_j, unl_rf, orf_r, orf_n, orf_rf, rf_null, mA_pm, mL_pm, mP_pm, List.length_cons, List.length_nil, List.cons_append, List.nil_append, Nat.reduceAdd, Nat.reduceLeDiff, Nat.reduceLT, Nat.reduceEqDiff, Nat.zero_add, Nat.add_zero, Nat.le_refl, Nat.zero_le, true_and, and_true, true_or, or_true, false_or, or_false, reduceIte]
      refine H 1 (Or.inl ⟨rfl, ?_⟩)
      refine in_nI (by omega) ⟨Int32.not_lt.mp q, ?_⟩
      have h1 := Int32.lt_iff_toInt_lt.mp (Int32.not_le.mp q2)
      have h0 : (0 : Int) ≤ x.toInt := by simpa using Int32.le_iff_toInt_le.mp (Int32.not_lt.mp q)
      rw [nI_toI (by omega)] at h1
      obtain ⟨m, rfl⟩ : ∃ m, n = m + 1 := ⟨n - 1, by omega⟩
      rw [nI_pred]
      apply Int32.le_iff_toInt_le.mpr
      rw [nI_toI (by omega)]
      omega
  · simp only [B_X5_hasNumber_0, o_al, o_gf, o_ifn, o_il, o_if, o_alen, o_ic2, o_ic, nth_0, nth_1, mV_5_3, al_5, kd_89, ix_89, cJ_89, cv_89, ix_5, cats_nil, cats_cons, rf_s, rf_n, isR_r, isR_n, isR_rf, cat_i, cat_l, cat_r, cat_n, cat_rf, unl_i, unl_l, unl_r, unl_n, unl_j, unl_rf, orf_r, orf_n, orf_rf, rf_null, mA_pm, mL_pm, mP_pm, List.length_cons, List.length_nil, List.cons_append, List.nil_append, Nat.reduceAdd, Nat.reduceLeDiff, Nat.reduceLT, Nat.reduceEqDiff, Nat.zero_add, Nat.add_zero, Nat.le_refl, Nat.zero_le, true_and, and_true, true_or, or_true, false_or, or_false, reduceIte, ha, hp]
    exact ⟨fun _ => k24 (fun i hi => by omega), fun z => by first | exact absurd rfl z | exact absurd trivial z⟩
theorem sp_sum_n {j : Nat} (ha : mA c 5 j = true) (hp : mP c 5 3 j = none) (x y : Int32) (H : Q [.long 0] (pm c M)) : K_X5_sum l D (d + 1) [.ref (ob 5 j), .int x, .int y] (pm c M) Q := by
  refine m_X5_sum (lsA := [.ref (ob 5 j), .int x, .int y, jk, jk, jk]) rfl (Nat.le_of_ble_eq_true rfl) ?_
  intro X h0 h16 h48
  apply h0
  simp only [B_X5_sum_0, o_lc, o_ls, o_al, o_gf, o_ifn, o_il, o_ic, o_m2, o_is, lsq_3, nth_0, nth_1, lset_5, mV_5_3, al_5, kd_89, ix_89, cJ_89, cv_89, ix_5, cats_nil, cats_cons, rf_s, rf_n, isR_r, isR_n, isR_rf, cat_i, cat_l, cat_r, cat_n, cat_rf, unl_i, unl_l, unl_r, unl_n, unl_j, unl_rf, orf_r, orf_n, orf_rf, rf_null, mA_pm, mL_pm, mP_pm, List.length_cons, List.length_nil, List.cons_append, List.nil_append, Nat.reduceAdd, Nat.reduceLeDiff, Nat.reduceLT, Nat.reduceEqDiff, Nat.zero_add, Nat.add_zero, Nat.le_refl, Nat.zero_le, true_and, and_true, true_or, or_true, false_or, or_false, reduceIte, ha, hp]
  refine ⟨fun _ => ?_, fun z => by first | exact absurd rfl z | exact absurd trivial z⟩
  apply h48
  simp only [B_X5_sum_48, o_ll, o_lret, nth_3, cats_nil, cats_cons, rf_s, rf_n, isR_r, isR_n, isR_rf, cat_i, cat_l, cat_r, cat_n, cat_rf, unl_i, unl_l, unl_r, unl_n, unl_j, unl_rf, orf_r, orf_n, orf_rf, rf_null, mA_pm, mL_pm, mP_pm, List.length_cons, List.length_nil, List.cons_append, List.nil_append, Nat.reduceAdd, Nat.reduceLeDiff, Nat.reduceLT, Nat.reduceEqDiff, Nat.zero_add, Nat.add_zero, Nat.le_refl, Nat.zero_le, true_and, and_true, true_or, or_true, false_or, or_false, reduceIte]
  exact H
theorem sp_sum {j f g n : Nat} (ha : mA c 5 j = true) (hp : mP c 5 3 j = some (ob 89 j)) (hl : mL c 89 j = n) (hn : n ≤ 60) (hfg : f ≤ g) (hg : g < n) (H : Q [.long (sl (fun i => mJ c 89 i j) f (g + 1 - f))] (pm c M)) : K_X5_sum l D (d + 1) [.ref (ob 5 j), .int (nI f), .int (nI g)] (pm c M) Q := by
  refine m_X5_sum (lsA := [.ref (ob 5 j), .int (nI f), .int (nI g), jk, jk, jk]) rfl (Nat.le_of_ble_eq_true rfl) ?_
  intro X h0 h16 h48
  have loop : ∀ m i, i + m = g + 1 - f → X 16 [.ref (ob 5 j), .int (nI f), .int (nI g), .long (sl (fun i => mJ c 89 i j) f i), jk, .int (nI (f + i))] [] (pm c M) 0 0 := by
    intro m
    induction m with
    | zero =>
      intro i hi
      apply h16
      simp only [B_X5_sum_16, o_il, o_ic2, o_al, o_gf, o_alen, o_ll, o_lald, o_jj, o_ls, o_inc, nth_5, nth_2, nth_0, nth_3, lsq_3, lset_5, mV_5_3, al_5, kd_89, ix_89, cJ_89, cv_89, ix_5, cats_nil, cats_cons, rf_s, rf_n, isR_r, isR_n, isR_rf, cat_i, cat_l, cat_r, cat_n, cat_rf, unl_i, unl_l, unl_r, unl_n, unl_j, unl_rf, orf_r, orf_n, orf_rf, rf_null, mA_pm, mL_pm, mP_pm, List.length_cons, List.length_nil, List.cons_append, List.nil_append, Nat.reduceAdd, Nat.reduceLeDiff, Nat.reduceLT, Nat.reduceEqDiff, Nat.zero_add, Nat.add_zero, Nat.le_refl, Nat.zero_le, true_and, and_true, true_or, or_true, false_or, or_false, reduceIte, ha, hp, hl, ofN]
      refine ⟨fun _ => ?_, fun z => absurd (by rw [nI_lt_iff]; omega) z⟩
      apply h48
      simp only [B_X5_sum_48, o_ll, o_lret, nth_3, cats_nil, cats_cons, rf_s, rf_n, isR_r, isR_n, isR_rf, cat_i, cat_l, cat_r, cat_n, cat_rf, unl_i, unl_l, unl_r, unl_n, unl_j, unl_rf, orf_r, orf_n, orf_rf, rf_null, mA_pm, mL_pm, mP_pm, List.length_cons, List.length_nil, List.cons_append, List.nil_append, Nat.reduceAdd, Nat.reduceLeDiff, Nat.reduceLT, Nat.reduceEqDiff, Nat.zero_add, Nat.add_zero, Nat.le_refl, Nat.zero_le, true_and, and_true, true_or, or_true, false_or, or_false, reduceIte]
      rw [show i = g + 1 - f by omega]
      exact H
    | succ m ih =>
      intro i hi
      have hin : f + i < n := by omega
      apply h16
      simp only [B_X5_sum_16, o_il, o_ic2, o_al, o_gf, o_alen, o_ll, o_lald, o_jj, o_ls, o_inc, nth_5, nth_2, nth_0, nth_3, lsq_3, lset_5, mV_5_3, al_5, kd_89, ix_89, cJ_89, cv_89, ix_5, cats_nil, cats_cons, rf_s, rf_n, isR_r, isR_n, isR_rf, cat_i, cat_l, cat_r, cat_n, cat_rf, unl_i, unl_l, unl_r, unl_n, unl_j, unl_rf, orf_r, orf_n, orf_rf, rf_null, mA_pm, mL_pm, mP_pm, List.length_cons, List.length_nil, List.cons_append, List.nil_append, Nat.reduceAdd, Nat.reduceLeDiff, Nat.reduceLT, Nat.reduceEqDiff, Nat.zero_add, Nat.add_zero, Nat.le_refl, Nat.zero_le, true_and, and_true, true_or, or_true, false_or, or_false, reduceIte, ha, hp, hl, ofN, show vp_in (nI (f + i)) n = True from vin hin (by omega), ncl hin (by omega), nI_1]
      refine ⟨fun z => absurd z (by rw [nI_lt_iff]; omega), fun _ => ⟨fun z => absurd z (by rw [nI_le_iff]; omega), fun _ => ?_⟩⟩
      exact ih (i + 1) (by omega)
  have e0 : (if nI f < 0 then (0 : Int32) else nI f) = nI f := if_neg (nI_ge0 (by omega))
  apply h0
  simp only [B_X5_sum_0, o_lc, o_ls, o_al, o_gf, o_ifn, o_il, o_ic, o_m2, o_is, lsq_3, nth_0, nth_1, lset_5, mV_5_3, al_5, kd_89, ix_89, cJ_89, cv_89, ix_5, cats_nil, cats_cons, rf_s, rf_n, isR_r, isR_n, isR_rf, cat_i, cat_l, cat_r, cat_n, cat_rf, unl_i, unl_l, unl_r, unl_n, unl_j, unl_rf, orf_r, orf_n, orf_rf, rf_null, mA_pm, mL_pm, mP_pm, List.length_cons, List.length_nil, List.cons_append, List.nil_append, Nat.reduceAdd, Nat.reduceLeDiff, Nat.reduceLT, Nat.reduceEqDiff, Nat.zero_add, Nat.add_zero, Nat.le_refl, Nat.zero_le, true_and, and_true, true_or, or_true, false_or, or_false, reduceIte, ha, hp, e0, rnn, false_imp_iff, not_false_eq_true, true_imp_iff]
  exact loop (g + 1 - f) 0 (by omega)
theorem sp_write {j i n : Nat} (ha : mA c 5 j = true) (hp : mP c 5 3 j = some (ob 89 j)) (hl : mL c 89 j = n) (hn : n ≤ 60) (hi : i < n) (b : Int32) (H : Q [] (pm (wJ c 89 i j (cutF (mI c 5 1 j) b.toInt64)) M)) : K_X5_write l D (d + 1) [.ref (ob 5 j), .int (nI i), .int b] (pm c M) Q := by
  refine m_X5_write (lsA := [.ref (ob 5 j), .int (nI i), .int b]) rfl (Nat.le_of_ble_eq_true rfl) ?_
  intro X h0 h38 h52 h54 h55
  have k54 : ∀ y, y = cutF (mI c 5 1 j) b.toInt64 → X 54 [.ref (ob 5 j), .int (nI i), .int b] [.long y, .int (nI i), .ref (ob 89 j)] (pm c M) 0 0 := by
    intro y hy
    apply h54
    simp only [B_X5_write_54, o_last, cats_nil, cats_cons, rf_s, rf_n, isR_r, isR_n, isR_rf, cat_i, cat_l, cat_r, cat_n, cat_rf, unl_i, unl_l, unl_r, unl_n, unl_j, unl_rf, orf_r, orf_n, orf_rf, rf_null, mA_pm, mL_pm, mP_pm, List.length_cons, List.length_nil, List.cons_append, List.nil_append, Nat.reduceAdd, Nat.reduceLeDiff, Nat.reduceLT, Nat.reduceEqDiff, Nat.zero_add, Nat.add_zero, Nat.le_refl, Nat.zero_le, true_and, and_true, true_or, or_true, false_or, or_false, reduceIte, kd_89, ix_89, hl, show vp_in (nI i) n = True from vin hi (by omega), ncl hi (by omega), cv_89]
    apply h55
    simp only [B_X5_write_55, o_vret, cats_nil, cats_cons, rf_s, rf_n, isR_r, isR_n, isR_rf, cat_i, cat_l, cat_r, cat_n, cat_rf, unl_i, unl_l, unl_r, unl_n, unl_j, unl_rf, orf_r, orf_n, orf_rf, rf_null, mA_pm, mL_pm, mP_pm, List.length_cons, List.length_nil, List.cons_append, List.nil_append, Nat.reduceAdd, Nat.reduceLeDiff, Nat.reduceLT, Nat.reduceEqDiff, Nat.zero_add, Nat.add_zero, Nat.le_refl, Nat.zero_le, true_and, and_true, true_or, or_true, false_or, or_false, reduceIte]
    rw [hy]
    exact H
  rw [cut_i] at k54
  apply h0
  simp only [B_X5_write_0, o_al, o_gf, o_ifn, o_il, o_if, o_alen, o_ic2, o_i, o_i2l, nth_0, nth_1, nth_2, mV_5_3, al_5, kd_89, ix_89, cJ_89, cv_89, ix_5, mV_5_1, cI_5, cats_nil, cats_cons, rf_s, rf_n, isR_r, isR_n, isR_rf, cat_i, cat_l, cat_r, cat_n, cat_rf, unl_i, unl_l, unl_r, unl_n, unl_j, unl_rf, orf_r, orf_n, orf_rf, rf_null, mA_pm, mL_pm, mP_pm, List.length_cons, List.length_nil, List.cons_append, List.nil_append, Nat.reduceAdd, Nat.reduceLeDiff, Nat.reduceLT, Nat.reduceEqDiff, Nat.zero_add, Nat.add_zero, Nat.le_refl, Nat.zero_le, true_and, and_true, true_or, or_true, false_or, or_false, reduceIte, ha, hp, hl, ofN, rnn, false_imp_iff, not_false_eq_true, true_imp_iff]
  refine ⟨fun q => absurd q (nI_ge0 (by omega)), fun _ => ⟨fun q => absurd q (by rw [nI_le_iff]; omega), fun _ => ⟨fun q => ?_, fun q => ?_⟩⟩⟩
  · exact k54 _ (by rw [if_pos q])
  · apply h38
    simp only [B_X5_write_38, o_al, o_gf, o_ic, o_ic2, o_il, o_i, o_i2l, nth_0, nth_2, mV_5_1, al_5, cI_5, ix_5, cats_nil, cats_cons, rf_s, rf_n, isR_r, isR_n, isR_rf, cat_i, cat_l, cat_r, cat_n, cat_rf, unl_i, unl_l, unl_r, unl_n, unl_j, unl_rf, orf_r, orf_n, orf_rf, rf_null, mA_pm, mL_pm, mP_pm, List.length_cons, List.length_nil, List.cons_append, List.nil_append, Nat.reduceAdd, Nat.reduceLeDiff, Nat.reduceLT, Nat.reduceEqDiff, Nat.zero_add, Nat.add_zero, Nat.le_refl, Nat.zero_le, true_and, and_true, true_or, or_true, false_or, or_false, reduceIte, ha]
    refine ⟨fun q2 => k54 _ (by rw [if_neg q, if_pos q2]), fun q2 => ?_⟩
    apply h52
    simp only [B_X5_write_52, o_il, o_i2l, nth_2, cats_nil, cats_cons, rf_s, rf_n, isR_r, isR_n, isR_rf, cat_i, cat_l, cat_r, cat_n, cat_rf, unl_i, unl_l, unl_r, unl_n, unl_j, unl_rf, orf_r, orf_n, orf_rf, rf_null, mA_pm, mL_pm, mP_pm, List.length_cons, List.length_nil, List.cons_append, List.nil_append, Nat.reduceAdd, Nat.reduceLeDiff, Nat.reduceLT, Nat.reduceEqDiff, Nat.zero_add, Nat.add_zero, Nat.le_refl, Nat.zero_le, true_and, and_true, true_or, or_true, false_or, or_false, reduceIte]
    exact k54 _ (by rw [if_neg q, if_neg q2])
theorem sp_write_n {j : Nat} (ha : mA c 5 j = true) (hp : mP c 5 3 j = none) (x b : Int32) (H : Q [] (pm c M)) : K_X5_write l D (d + 1) [.ref (ob 5 j), .int x, .int b] (pm c M) Q := by
  refine m_X5_write (lsA := [.ref (ob 5 j), .int x, .int b]) rfl (Nat.le_of_ble_eq_true rfl) ?_
  intro X h0 h38 h52 h54 h55
  apply h0
  simp only [B_X5_write_0, o_al, o_gf, o_ifn, o_il, o_if, o_alen, o_ic2, o_i, o_i2l, nth_0, nth_1, nth_2, mV_5_3, al_5, kd_89, ix_89, cJ_89, cv_89, ix_5, mV_5_1, cI_5, cats_nil, cats_cons, rf_s, rf_n, isR_r, isR_n, isR_rf, cat_i, cat_l, cat_r, cat_n, cat_rf, unl_i, unl_l, unl_r, unl_n, unl_j, unl_rf, orf_r, orf_n, orf_rf, rf_null, mA_pm, mL_pm, mP_pm, List.length_cons, List.length_nil, List.cons_append, List.nil_append, Nat.reduceAdd, Nat.reduceLeDiff, Nat.reduceLT, Nat.reduceEqDiff, Nat.zero_add, Nat.add_zero, Nat.le_refl, Nat.zero_le, true_and, and_true, true_or, or_true, false_or, or_false, reduceIte, ha, hp]
  refine ⟨fun _ => ?_, fun z => by first | exact absurd rfl z | exact absurd trivial z⟩
  apply h55
  simp only [B_X5_write_55, o_vret, cats_nil, cats_cons, rf_s, rf_n, isR_r, isR_n, isR_rf, cat_i, cat_l, cat_r, cat_n, cat_rf, unl_i, unl_l, unl_r, unl_n, unl_j, unl_rf, orf_r, orf_n, orf_rf, rf_null, mA_pm, mL_pm, mP_pm, List.length_cons, List.length_nil, List.cons_append, List.nil_append, Nat.reduceAdd, Nat.reduceLeDiff, Nat.reduceLT, Nat.reduceEqDiff, Nat.zero_add, Nat.add_zero, Nat.le_refl, Nat.zero_le, true_and, and_true, true_or, or_true, false_or, or_false, reduceIte]
  exact H
end ZC12
