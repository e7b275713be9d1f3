/-! The class: loops over its rows -/
section ZC13
variable {l : Launch} {D : DD} {d : Nat} {c : HP} {M : MD} {Q : List Value → HP → Prop}
theorem sp_isHome (hc : SKF c) {nT nR nA : Nat} (hd : SKD c nT nR nA) (hT2 : nT ≤ 12) (s : Int32) (H : ∀ r : Int32, (r = 1 ∧ ∃ t, t < nT ∧ mI c 5 0 t = s) ∨ (r = 0 ∧ ∀ t, t < nT → ¬ mI c 5 0 t = s) → Q [.int r] (pm c M)) : K_X6_isHome l D (d + 1) [.ref (ob 6 0), .int s] (pm c M) Q := by
  refine m_X6_isHome (lsA := [.ref (ob 6 0), .int s, jk, jk]) rfl (Nat.le_of_ble_eq_true rfl) ?_
  intro X h0 h2 h32 h38
  have loop : ∀ m i w3, i + m = 12 → (∀ t, t < i → t < nT → ¬ mI c 5 0 t = s) → X 2 [.ref (ob 6 0), .int s, .int (nI i), w3] [] (pm c M) 0 0 := by
    intro m
    induction m with
    | zero =>
      intro i w3 hi h
      obtain rfl : i = 12 := by omega
      apply h2
      simp only [B_X6_isHome_2, o_il, o_al, o_gf, o_alen, o_ic2, o_aald, o_as, o_ifn, o_ic, o_zret, nth_2, nth_0, lset_3, nth_3, nth_1, mV_6_0, al_6, hc.p6_0, kd_96, ix_96, hc.l96, hc.a6, ix_6, mV_5_0, al_5, cI_5, ix_5, cats_nil, cats_cons, rf_s, rf_n, isR_r, isR_n, isR_rf, cat_i, cat_l, cat_r, cat_n, cat_rf, unl_i, unl_l, unl_r, unl_n, unl_j, unl_rf, orf_r, orf_n, orf_rf, rf_null, mA_pm, mL_pm, mP_pm, List.length_cons, List.length_nil, List.cons_append, List.nil_append, Nat.reduceAdd, Nat.reduceLeDiff, Nat.reduceLT, Nat.reduceEqDiff, Nat.zero_add, Nat.add_zero, Nat.le_refl, Nat.zero_le, true_and, and_true, true_or, or_true, false_or, or_false, reduceIte, ofN]
      refine ⟨fun _ => ?_, fun z => absurd (by decide) z⟩
      apply h38
      simp only [B_X6_isHome_38, o_ic, o_zret, cats_nil, cats_cons, rf_s, rf_n, isR_r, isR_n, isR_rf, cat_i, cat_l, cat_r, cat_n, cat_rf, unl_i, unl_l, unl_r, unl_n, unl_j, unl_rf, orf_r, orf_n, orf_rf, rf_null, mA_pm, mL_pm, mP_pm, List.length_cons, List.length_nil, List.cons_append, List.nil_append, Nat.reduceAdd, Nat.reduceLeDiff, Nat.reduceLT, Nat.reduceEqDiff, Nat.zero_add, Nat.add_zero, Nat.le_refl, Nat.zero_le, true_and, and_true, true_or, or_true, false_or, or_false, reduceIte]
      exact H 0 (Or.inr ⟨rfl, fun t ht => h t (by omega) ht⟩)
    | succ m ih =>
      intro i w3 hi h
      have hi12 : i < 12 := by omega
      have k32 : ∀ w3, (i < nT → ¬ mI c 5 0 i = s) → X 32 [.ref (ob 6 0), .int s, .int (nI i), w3] [] (pm c M) 0 0 := by
        intro w3 q
        apply h32
        simp only [B_X6_isHome_32, o_inc, nth_2, lset_2, cats_nil, cats_cons, rf_s, rf_n, isR_r, isR_n, isR_rf, cat_i, cat_l, cat_r, cat_n, cat_rf, unl_i, unl_l, unl_r, unl_n, unl_j, unl_rf, orf_r, orf_n, orf_rf, rf_null, mA_pm, mL_pm, mP_pm, List.length_cons, List.length_nil, List.cons_append, List.nil_append, Nat.reduceAdd, Nat.reduceLeDiff, Nat.reduceLT, Nat.reduceEqDiff, Nat.zero_add, Nat.add_zero, Nat.le_refl, Nat.zero_le, true_and, and_true, true_or, or_true, false_or, or_false, reduceIte, nI_1]
        exact ih (i + 1) w3 (by omega) (nx h q)
      apply h2
      by_cases hn : i < nT
      · simp only [B_X6_isHome_2, o_il, o_al, o_gf, o_alen, o_ic2, o_aald, o_as, o_ifn, o_ic, o_zret, nth_2, nth_0, lset_3, nth_3, nth_1, mV_6_0, al_6, hc.p6_0, kd_96, ix_96, hc.l96, hc.a6, ix_6, mV_5_0, al_5, cI_5, ix_5, cats_nil, cats_cons, rf_s, rf_n, isR_r, isR_n, isR_rf, cat_i, cat_l, cat_r, cat_n, cat_rf, unl_i, unl_l, unl_r, unl_n, unl_j, unl_rf, orf_r, orf_n, orf_rf, rf_null, mA_pm, mL_pm, mP_pm, List.length_cons, List.length_nil, List.cons_append, List.nil_append, Nat.reduceAdd, Nat.reduceLeDiff, Nat.reduceLT, Nat.reduceEqDiff, Nat.zero_add, Nat.add_zero, Nat.le_refl, Nat.zero_le, true_and, and_true, true_or, or_true, false_or, or_false, reduceIte, ofN, vin hi12, ncl hi12, hd.1 i hi12, if_pos hn, hd.2.2.2.1 i hn, rnn, false_imp_iff, not_false_eq_true, true_imp_iff]
        refine ⟨fun z => absurd z (by rw [nI_le_iff]; omega), fun _ => ⟨fun q => H 1 (Or.inl ⟨rfl, i, hn, q⟩), fun q => k32 _ (fun _ => q)⟩⟩
      · simp only [B_X6_isHome_2, o_il, o_al, o_gf, o_alen, o_ic2, o_aald, o_as, o_ifn, o_ic, o_zret, nth_2, nth_0, lset_3, nth_3, nth_1, mV_6_0, al_6, hc.p6_0, kd_96, ix_96, hc.l96, hc.a6, ix_6, mV_5_0, al_5, cI_5, ix_5, cats_nil, cats_cons, rf_s, rf_n, isR_r, isR_n, isR_rf, cat_i, cat_l, cat_r, cat_n, cat_rf, unl_i, unl_l, unl_r, unl_n, unl_j, unl_rf, orf_r, orf_n, orf_rf, rf_null, mA_pm, mL_pm, mP_pm, List.length_cons, List.length_nil, List.cons_append, List.nil_append, Nat.reduceAdd, Nat.reduceLeDiff, Nat.reduceLT, Nat.reduceEqDiff, Nat.zero_add, Nat.add_zero, Nat.le_refl, Nat.zero_le, true_and, and_true, true_or, or_true, false_or, or_false, reduceIte, ofN, vin hi12, ncl hi12, hd.1 i hi12, if_neg hn]
        refine ⟨fun z => absurd z (by rw [nI_le_iff]; omega), fun _ => ⟨fun _ => k32 _ (fun z => absurd z hn), fun z => by first | exact absurd rfl z | exact absurd trivial z⟩⟩
  apply h0
  simp only [B_X6_isHome_0, o_ic, o_is, lset_2, cats_nil, cats_cons, rf_s, rf_n, isR_r, isR_n, isR_rf, cat_i, cat_l, cat_r, cat_n, cat_rf, unl_i, unl_l, unl_r, unl_n, unl_j, unl_rf, orf_r, orf_n, orf_rf, rf_null, mA_pm, mL_pm, mP_pm, List.length_cons, List.length_nil, List.cons_append, List.nil_append, Nat.reduceAdd, Nat.reduceLeDiff, Nat.reduceLT, Nat.reduceEqDiff, Nat.zero_add, Nat.add_zero, Nat.le_refl, Nat.zero_le, true_and, and_true, true_or, or_true, false_or, or_false, reduceIte]
  exact loop 12 0 _ (by omega) (fun t ht => by omega)
theorem sp_isReaderSlot (hc : SKF c) {nT nR nA : Nat} (hd : SKD c nT nR nA) (hR2 : nR ≤ 3) (s : Int32) (H : ∀ r : Int32, (r = 1 ∧ ∃ t, t < nR ∧ mI c 3 0 t = s) ∨ (r = 0 ∧ ∀ t, t < nR → ¬ mI c 3 0 t = s) → Q [.int r] (pm c M)) : K_X6_isReaderSlot l D (d + 1) [.ref (ob 6 0), .int s] (pm c M) Q := by
  refine m_X6_isReaderSlot (lsA := [.ref (ob 6 0), .int s, jk, jk]) rfl (Nat.le_of_ble_eq_true rfl) ?_
  intro X h0 h2 h32 h38
  have loop : ∀ m i w3, i + m = 3 → (∀ t, t < i → t < nR → ¬ mI c 3 0 t = s) → X 2 [.ref (ob 6 0), .int s, .int (nI i), w3] [] (pm c M) 0 0 := by
    intro m
    induction m with
    | zero =>
      intro i w3 hi h
      obtain rfl : i = 3 := by omega
      apply h2
      simp only [B_X6_isReaderSlot_2, o_il, o_al, o_gf, o_alen, o_ic2, o_aald, o_as, o_ifn, o_ic, o_zret, nth_2, nth_0, lset_3, nth_3, nth_1, mV_6_1, al_6, hc.p6_1, kd_97, ix_97, hc.l97, hc.a6, ix_6, mV_3_0, al_3, cI_3, ix_3, cats_nil, cats_cons, rf_s, rf_n, isR_r, isR_n, isR_rf, cat_i, cat_l, cat_r, cat_n, cat_rf, unl_i, unl_l, unl_r, unl_n, unl_j, unl_rf, orf_r, orf_n, orf_rf, rf_null, mA_pm, mL_pm, mP_pm, List.length_cons, List.length_nil, List.cons_append, List.nil_append, Nat.reduceAdd, Nat.reduceLeDiff, Nat.reduceLT, Nat.reduceEqDiff, Nat.zero_add, Nat.add_zero, Nat.le_refl, Nat.zero_le, true_and, and_true, true_or, or_true, false_or, or_false, reduceIte, ofN]
      refine ⟨fun _ => ?_, fun z => absurd (by decide) z⟩
      apply h38
      simp only [B_X6_isReaderSlot_38, o_ic, o_zret, cats_nil, cats_cons, rf_s, rf_n, isR_r, isR_n, isR_rf, cat_i, cat_l, cat_r, cat_n, cat_rf, unl_i, unl_l, unl_r, unl_n, unl_j, unl_rf, orf_r, orf_n, orf_rf, rf_null, mA_pm, mL_pm, mP_pm, List.length_cons, List.length_nil, List.cons_append, List.nil_append, Nat.reduceAdd, Nat.reduceLeDiff, Nat.reduceLT, Nat.reduceEqDiff, Nat.zero_add, Nat.add_zero, Nat.le_refl, Nat.zero_le, true_and, and_true, true_or, or_true, false_or, or_false, reduceIte]
      exact H 0 (Or.inr ⟨rfl, fun t ht => h t (by omega) ht⟩)
    | succ m ih =>
      intro i w3 hi h
      have hi3 : i < 3 := by omega
      have k32 : ∀ w3, (i < nR → ¬ mI c 3 0 i = s) → X 32 [.ref (ob 6 0), .int s, .int (nI i), w3] [] (pm c M) 0 0 := by
        intro w3 q
        apply h32
        simp only [B_X6_isReaderSlot_32, o_inc, nth_2, lset_2, cats_nil, cats_cons, rf_s, rf_n, isR_r, isR_n, isR_rf, cat_i, cat_l, cat_r, cat_n, cat_rf, unl_i, unl_l, unl_r, unl_n, unl_j, unl_rf, orf_r, orf_n, orf_rf, rf_null, mA_pm, mL_pm, mP_pm, List.length_cons, List.length_nil, List.cons_append, List.nil_append, Nat.reduceAdd, Nat.reduceLeDiff, Nat.reduceLT, Nat.reduceEqDiff, Nat.zero_add, Nat.add_zero, Nat.le_refl, Nat.zero_le, true_and, and_true, true_or, or_true, false_or, or_false, reduceIte, nI_1]
        exact ih (i + 1) w3 (by omega) (nx h q)
      apply h2
      by_cases hn : i < nR
      · simp only [B_X6_isReaderSlot_2, o_il, o_al, o_gf, o_alen, o_ic2, o_aald, o_as, o_ifn, o_ic, o_zret, nth_2, nth_0, lset_3, nth_3, nth_1, mV_6_1, al_6, hc.p6_1, kd_97, ix_97, hc.l97, hc.a6, ix_6, mV_3_0, al_3, cI_3, ix_3, cats_nil, cats_cons, rf_s, rf_n, isR_r, isR_n, isR_rf, cat_i, cat_l, cat_r, cat_n, cat_rf, unl_i, unl_l, unl_r, unl_n, unl_j, unl_rf, orf_r, orf_n, orf_rf, rf_null, mA_pm, mL_pm, mP_pm, List.length_cons, List.length_nil, List.cons_append, List.nil_append, Nat.reduceAdd, Nat.reduceLeDiff, Nat.reduceLT, Nat.reduceEqDiff, Nat.zero_add, Nat.add_zero, Nat.le_refl, Nat.zero_le, true_and, and_true, true_or, or_true, false_or, or_false, reduceIte, ofN, vin hi3, ncl hi3, hd.2.1 i hi3, if_pos hn, (hd.2.2.2.2.1 i hn).1, rnn, false_imp_iff, not_false_eq_true, true_imp_iff]
        refine ⟨fun z => absurd z (by rw [nI_le_iff]; omega), fun _ => ⟨fun q => H 1 (Or.inl ⟨rfl, i, hn, q⟩), fun q => k32 _ (fun _ => q)⟩⟩
      · simp only [B_X6_isReaderSlot_2, o_il, o_al, o_gf, o_alen, o_ic2, o_aald, o_as, o_ifn, o_ic, o_zret, nth_2, nth_0, lset_3, nth_3, nth_1, mV_6_1, al_6, hc.p6_1, kd_97, ix_97, hc.l97, hc.a6, ix_6, mV_3_0, al_3, cI_3, ix_3, cats_nil, cats_cons, rf_s, rf_n, isR_r, isR_n, isR_rf, cat_i, cat_l, cat_r, cat_n, cat_rf, unl_i, unl_l, unl_r, unl_n, unl_j, unl_rf, orf_r, orf_n, orf_rf, rf_null, mA_pm, mL_pm, mP_pm, List.length_cons, List.length_nil, List.cons_append, List.nil_append, Nat.reduceAdd, Nat.reduceLeDiff, Nat.reduceLT, Nat.reduceEqDiff, Nat.zero_add, Nat.add_zero, Nat.le_refl, Nat.zero_le, true_and, and_true, true_or, or_true, false_or, or_false, reduceIte, ofN, vin hi3, ncl hi3, hd.2.1 i hi3, if_neg hn]
        refine ⟨fun z => absurd z (by rw [nI_le_iff]; omega), fun _ => ⟨fun _ => k32 _ (fun z => absurd z hn), fun z => by first | exact absurd rfl z | exact absurd trivial z⟩⟩
  apply h0
  simp only [B_X6_isReaderSlot_0, o_ic, o_is, lset_2, cats_nil, cats_cons, rf_s, rf_n, isR_r, isR_n, isR_rf, cat_i, cat_l, cat_r, cat_n, cat_rf, unl_i, unl_l, unl_r, unl_n, unl_j, unl_rf, orf_r, orf_n, orf_rf, rf_null, mA_pm, mL_pm, mP_pm, List.length_cons, List.length_nil, List.cons_append, List.nil_append, Nat.reduceAdd, Nat.reduceLeDiff, Nat.reduceLT, Nat.reduceEqDiff, Nat.zero_add, Nat.add_zero, Nat.le_refl, Nat.zero_le, true_and, and_true, true_or, or_true, false_or, or_false, reduceIte]
  exact loop 3 0 _ (by omega) (fun t ht => by omega)
theorem sp_firstEmpty (hc : SKF c) {nT nR nA : Nat} (hd : SKD c nT nR nA) (hR2 : nR ≤ 3) (H : ∀ r : Int32, (∃ t, t < nR ∧ mI c 3 2 t = 0 ∧ (∀ j, j < t → ¬ mI c 3 2 j = 0) ∧ r = nI t) ∨ (r = -1 ∧ ∀ t, t < nR → ¬ mI c 3 2 t = 0) → Q [.int r] (pm c M)) : K_X6_firstEmpty l D (d + 1) [.ref (ob 6 0)] (pm c M) Q := by
  refine m_X6_firstEmpty (lsA := [.ref (ob 6 0), jk, jk]) rfl (Nat.le_of_ble_eq_true rfl) ?_
  intro X h0 h2 h31 h37
  have loop : ∀ m i w3, i + m = 3 → (∀ t, t < i → t < nR → ¬ mI c 3 2 t = 0) → X 2 [.ref (ob 6 0), .int (nI i), w3] [] (pm c M) 0 0 := by
    intro m
    induction m with
    | zero =>
      intro i w3 hi h
      obtain rfl : i = 3 := by omega
      apply h2
      simp only [B_X6_firstEmpty_2, o_il, o_al, o_gf, o_alen, o_ic2, o_aald, o_as, o_ifn, o_if, o_iret, nth_1, nth_0, lset_2, nth_2, mV_6_1, al_6, hc.p6_1, kd_97, ix_97, hc.l97, hc.a6, ix_6, mV_3_2, al_3, cI_3, ix_3, cats_nil, cats_cons, rf_s, rf_n, isR_r, isR_n, isR_rf, cat_i, cat_l, cat_r, cat_n, cat_rf, unl_i, unl_l, unl_r, unl_n, unl_j, unl_rf, orf_r, orf_n, orf_rf, rf_null, mA_pm, mL_pm, mP_pm, List.length_cons, List.length_nil, List.cons_append, List.nil_append, Nat.reduceAdd, Nat.reduceLeDiff, Nat.reduceLT, Nat.reduceEqDiff, Nat.zero_add, Nat.add_zero, Nat.le_refl, Nat.zero_le, true_and, and_true, true_or, or_true, false_or, or_false, reduceIte, ofN]
      refine ⟨fun _ => ?_, fun z => absurd (by decide) z⟩
      apply h37
      simp only [B_X6_firstEmpty_37, o_ic, o_iret, cats_nil, cats_cons, rf_s, rf_n, isR_r, isR_n, isR_rf, cat_i, cat_l, cat_r, cat_n, cat_rf, unl_i, unl_l, unl_r, unl_n, unl_j, unl_rf, orf_r, orf_n, orf_rf, rf_null, mA_pm, mL_pm, mP_pm, List.length_cons, List.length_nil, List.cons_append, List.nil_append, Nat.reduceAdd, Nat.reduceLeDiff, Nat.reduceLT, Nat.reduceEqDiff, Nat.zero_add, Nat.add_zero, Nat.le_refl, Nat.zero_le, true_and, and_true, true_or, or_true, false_or, or_false, reduceIte]
      exact H (-1) (Or.inr ⟨rfl, fun t ht => h t (by omega) ht⟩)
    | succ m ih =>
      intro i w3 hi h
      have hi3 : i < 3 := by omega
      have k31 : ∀ w3, (i < nR → ¬ mI c 3 2 i = 0) → X 31 [.ref (ob 6 0), .int (nI i), w3] [] (pm c M) 0 0 := by
        intro w3 q
        apply h31
        simp only [B_X6_firstEmpty_31, o_inc, nth_1, lset_1, cats_nil, cats_cons, rf_s, rf_n, isR_r, isR_n, isR_rf, cat_i, cat_l, cat_r, cat_n, cat_rf, unl_i, unl_l, unl_r, unl_n, unl_j, unl_rf, orf_r, orf_n, orf_rf, rf_null, mA_pm, mL_pm, mP_pm, List.length_cons, List.length_nil, List.cons_append, List.nil_append, Nat.reduceAdd, Nat.reduceLeDiff, Nat.reduceLT, Nat.reduceEqDiff, Nat.zero_add, Nat.add_zero, Nat.le_refl, Nat.zero_le, true_and, and_true, true_or, or_true, false_or, or_false, reduceIte, nI_1]
        exact ih (i + 1) w3 (by omega) (nx h q)
      apply h2
      by_cases hn : i < nR
      · simp only [B_X6_firstEmpty_2, o_il, o_al, o_gf, o_alen, o_ic2, o_aald, o_as, o_ifn, o_if, o_iret, nth_1, nth_0, lset_2, nth_2, mV_6_1, al_6, hc.p6_1, kd_97, ix_97, hc.l97, hc.a6, ix_6, mV_3_2, al_3, cI_3, ix_3, cats_nil, cats_cons, rf_s, rf_n, isR_r, isR_n, isR_rf, cat_i, cat_l, cat_r, cat_n, cat_rf, unl_i, unl_l, unl_r, unl_n, unl_j, unl_rf, orf_r, orf_n, orf_rf, rf_null, mA_pm, mL_pm, mP_pm, List.length_cons, List.length_nil, List.cons_append, List.nil_append, Nat.reduceAdd, Nat.reduceLeDiff, Nat.reduceLT, Nat.reduceEqDiff, Nat.zero_add, Nat.add_zero, Nat.le_refl, Nat.zero_le, true_and, and_true, true_or, or_true, false_or, or_false, reduceIte, ofN, vin hi3, ncl hi3, hd.2.1 i hi3, if_pos hn, (hd.2.2.2.2.1 i hn).1, rnn, false_imp_iff, not_false_eq_true, true_imp_iff]
        refine ⟨fun z => absurd z (by rw [nI_le_iff]; omega), fun _ => ⟨fun q => H _ (Or.inl ⟨i, hn, q, fun j hj => h j hj (by omega), rfl⟩), fun q => k31 _ (fun _ => q)⟩⟩
      · simp only [B_X6_firstEmpty_2, o_il, o_al, o_gf, o_alen, o_ic2, o_aald, o_as, o_ifn, o_if, o_iret, nth_1, nth_0, lset_2, nth_2, mV_6_1, al_6, hc.p6_1, kd_97, ix_97, hc.l97, hc.a6, ix_6, mV_3_2, al_3, cI_3, ix_3, cats_nil, cats_cons, rf_s, rf_n, isR_r, isR_n, isR_rf, cat_i, cat_l, cat_r, cat_n, cat_rf, unl_i, unl_l, unl_r, unl_n, unl_j, unl_rf, orf_r, orf_n, orf_rf, rf_null, mA_pm, mL_pm, mP_pm, List.length_cons, List.length_nil, List.cons_append, List.nil_append, Nat.reduceAdd, Nat.reduceLeDiff, Nat.reduceLT, Nat.reduceEqDiff, Nat.zero_add, Nat.add_zero, Nat.le_refl, Nat.zero_le, true_and, and_true, true_or, or_true, false_or, or_false, reduceIte, ofN, vin hi3, ncl hi3, hd.2.1 i hi3, if_neg hn]
        refine ⟨fun z => absurd z (by rw [nI_le_iff]; omega), fun _ => ⟨fun _ => k31 _ (fun z => absurd z hn), fun z => by first | exact absurd rfl z | exact absurd trivial z⟩⟩
  apply h0
  simp only [B_X6_firstEmpty_0, o_ic, o_is, lset_1, cats_nil, cats_cons, rf_s, rf_n, isR_r, isR_n, isR_rf, cat_i, cat_l, cat_r, cat_n, cat_rf, unl_i, unl_l, unl_r, unl_n, unl_j, unl_rf, orf_r, orf_n, orf_rf, rf_null, mA_pm, mL_pm, mP_pm, List.length_cons, List.length_nil, List.cons_append, List.nil_append, Nat.reduceAdd, Nat.reduceLeDiff, Nat.reduceLT, Nat.reduceEqDiff, Nat.zero_add, Nat.add_zero, Nat.le_refl, Nat.zero_le, true_and, and_true, true_or, or_true, false_or, or_false, reduceIte]
  exact loop 3 0 _ (by omega) (fun t ht => by omega)
theorem sp_asksThatAre (hc : SKF c) {nT nR nA : Nat} (hd : SKD c nT nR nA) (hA2 : nA ≤ 150) (s : Int32) (H : Q [.int (nI (cn (fun k => decide (mI c 1 7 k = s)) nA))] (pm c M)) : K_X6_asksThatAre l D (d + 1) [.ref (ob 6 0), .int s] (pm c M) Q := by
  refine m_X6_asksThatAre (lsA := [.ref (ob 6 0), .int s, jk, jk, jk]) rfl (Nat.le_of_ble_eq_true rfl) ?_
  intro X h0 h4 h38 h44
  have loop : ∀ m i w4, i + m = 150 → X 4 [.ref (ob 6 0), .int s, .int (nI (cn (fun k => decide (mI c 1 7 k = s)) (min i nA))), .int (nI i), w4] [] (pm c M) 0 0 := by
    intro m
    induction m with
    | zero =>
      intro i w4 hi
      obtain rfl : i = 150 := by omega
      apply h4
      simp only [B_X6_asksThatAre_4, o_il, o_al, o_gf, o_alen, o_ic2, o_aald, o_as, o_ifn, o_inc, nth_3, nth_0, lset_4, nth_4, nth_1, nth_2, lset_2, mV_6_2, al_6, hc.p6_2, kd_98, ix_98, hc.l98, hc.a6, ix_6, mV_1_7, al_1, cI_1, ix_1, cats_nil, cats_cons, rf_s, rf_n, isR_r, isR_n, isR_rf, cat_i, cat_l, cat_r, cat_n, cat_rf, unl_i, unl_l, unl_r, unl_n, unl_j, unl_rf, orf_r, orf_n, orf_rf, rf_null, mA_pm, mL_pm, mP_pm, List.length_cons, List.length_nil, List.cons_append, List.nil_append, Nat.reduceAdd, Nat.reduceLeDiff, Nat.reduceLT, Nat.reduceEqDiff, Nat.zero_add, Nat.add_zero, Nat.le_refl, Nat.zero_le, true_and, and_true, true_or, or_true, false_or, or_false, reduceIte, ofN]
      refine ⟨fun _ => ?_, fun z => absurd (by decide) z⟩
      apply h44
      simp only [B_X6_asksThatAre_44, o_il, o_iret, nth_2, cats_nil, cats_cons, rf_s, rf_n, isR_r, isR_n, isR_rf, cat_i, cat_l, cat_r, cat_n, cat_rf, unl_i, unl_l, unl_r, unl_n, unl_j, unl_rf, orf_r, orf_n, orf_rf, rf_null, mA_pm, mL_pm, mP_pm, List.length_cons, List.length_nil, List.cons_append, List.nil_append, Nat.reduceAdd, Nat.reduceLeDiff, Nat.reduceLT, Nat.reduceEqDiff, Nat.zero_add, Nat.add_zero, Nat.le_refl, Nat.zero_le, true_and, and_true, true_or, or_true, false_or, or_false, reduceIte]
      rw [show min 150 nA = nA by omega]
      exact H
    | succ m ih =>
      intro i w4 hi
      have hi150 : i < 150 := by omega
      have k38 : ∀ x w4, x = nI (cn (fun k => decide (mI c 1 7 k = s)) (min (i + 1) nA)) → X 38 [.ref (ob 6 0), .int s, .int x, .int (nI i), w4] [] (pm c M) 0 0 := by
        intro x w4 e
        apply h38
        simp only [B_X6_asksThatAre_38, o_inc, nth_3, lset_3, cats_nil, cats_cons, rf_s, rf_n, isR_r, isR_n, isR_rf, cat_i, cat_l, cat_r, cat_n, cat_rf, unl_i, unl_l, unl_r, unl_n, unl_j, unl_rf, orf_r, orf_n, orf_rf, rf_null, mA_pm, mL_pm, mP_pm, List.length_cons, List.length_nil, List.cons_append, List.nil_append, Nat.reduceAdd, Nat.reduceLeDiff, Nat.reduceLT, Nat.reduceEqDiff, Nat.zero_add, Nat.add_zero, Nat.le_refl, Nat.zero_le, true_and, and_true, true_or, or_true, false_or, or_false, reduceIte, nI_1]
        rw [e]
        exact ih (i + 1) w4 (by omega)
      apply h4
      by_cases hn : i < nA
      · simp only [B_X6_asksThatAre_4, o_il, o_al, o_gf, o_alen, o_ic2, o_aald, o_as, o_ifn, o_inc, nth_3, nth_0, lset_4, nth_4, nth_1, nth_2, lset_2, mV_6_2, al_6, hc.p6_2, kd_98, ix_98, hc.l98, hc.a6, ix_6, mV_1_7, al_1, cI_1, ix_1, cats_nil, cats_cons, rf_s, rf_n, isR_r, isR_n, isR_rf, cat_i, cat_l, cat_r, cat_n, cat_rf, unl_i, unl_l, unl_r, unl_n, unl_j, unl_rf, orf_r, orf_n, orf_rf, rf_null, mA_pm, mL_pm, mP_pm, List.length_cons, List.length_nil, List.cons_append, List.nil_append, Nat.reduceAdd, Nat.reduceLeDiff, Nat.reduceLT, Nat.reduceEqDiff, Nat.zero_add, Nat.add_zero, Nat.le_refl, Nat.zero_le, true_and, and_true, true_or, or_true, false_or, or_false, reduceIte, ofN, vin hi150, ncl hi150, hd.2.2.1 i hi150, if_pos hn, hd.2.2.2.2.2 i hn, rnn, false_imp_iff, not_false_eq_true, true_imp_iff]
        rw [show min i nA = i by omega]
        rw [show min (i + 1) nA = i + 1 by omega, nI_cn] at k38
        refine ⟨fun z => absurd z (by rw [nI_le_iff]; omega), fun _ => ⟨fun q => k38 _ _ (by simp [q]), fun q => k38 _ _ (by simp [q])⟩⟩
      · simp only [B_X6_asksThatAre_4, o_il, o_al, o_gf, o_alen, o_ic2, o_aald, o_as, o_ifn, o_inc, nth_3, nth_0, lset_4, nth_4, nth_1, nth_2, lset_2, mV_6_2, al_6, hc.p6_2, kd_98, ix_98, hc.l98, hc.a6, ix_6, mV_1_7, al_1, cI_1, ix_1, cats_nil, cats_cons, rf_s, rf_n, isR_r, isR_n, isR_rf, cat_i, cat_l, cat_r, cat_n, cat_rf, unl_i, unl_l, unl_r, unl_n, unl_j, unl_rf, orf_r, orf_n, orf_rf, rf_null, mA_pm, mL_pm, mP_pm, List.length_cons, List.length_nil, List.cons_append, List.nil_append, Nat.reduceAdd, Nat.reduceLeDiff, Nat.reduceLT, Nat.reduceEqDiff, Nat.zero_add, Nat.add_zero, Nat.le_refl, Nat.zero_le, true_and, and_true, true_or, or_true, false_or, or_false, reduceIte, ofN, vin hi150, ncl hi150, hd.2.2.1 i hi150, if_neg hn]
        refine ⟨fun z => absurd z (by rw [nI_le_iff]; omega), fun _ => ⟨fun _ => k38 _ _ (by rw [show min (i + 1) nA = min i nA by omega]), fun z => by first | exact absurd rfl z | exact absurd trivial z⟩⟩
  apply h0
  simp only [B_X6_asksThatAre_0, o_ic, o_is, lset_2, lset_3, cats_nil, cats_cons, rf_s, rf_n, isR_r, isR_n, isR_rf, cat_i, cat_l, cat_r, cat_n, cat_rf, unl_i, unl_l, unl_r, unl_n, unl_j, unl_rf, orf_r, orf_n, orf_rf, rf_null, mA_pm, mL_pm, mP_pm, List.length_cons, List.length_nil, List.cons_append, List.nil_append, Nat.reduceAdd, Nat.reduceLeDiff, Nat.reduceLT, Nat.reduceEqDiff, Nat.zero_add, Nat.add_zero, Nat.le_refl, Nat.zero_le, true_and, and_true, true_or, or_true, false_or, or_false, reduceIte]
  have := loop 150 0 jk (by omega)
  rw [show min 0 nA = 0 by omega] at this
  exact this
theorem sp_waitingOf (hc : SKF c) {nT nR nA : Nat} (hd : SKD c nT nR nA) (hA2 : nA ≤ 150) (s : Int32) (H : Q [.int (nI (cn (fun k => decide (mI c 1 1 k = s ∧ mI c 1 7 k = 0)) nA))] (pm c M)) : K_X6_waitingOf l D (d + 1) [.ref (ob 6 0), .int s] (pm c M) Q := by
  refine m_X6_waitingOf (lsA := [.ref (ob 6 0), .int s, jk, jk, jk]) rfl (Nat.le_of_ble_eq_true rfl) ?_
  intro X h0 h4 h46 h52
  have loop : ∀ m i w4, i + m = 150 → X 4 [.ref (ob 6 0), .int s, .int (nI (cn (fun k => decide (mI c 1 1 k = s ∧ mI c 1 7 k = 0)) (min i nA))), .int (nI i), w4] [] (pm c M) 0 0 := by
    intro m
    induction m with
    | zero =>
      intro i w4 hi
      obtain rfl : i = 150 := by omega
      apply h4
      simp only [B_X6_waitingOf_4, o_il, o_al, o_gf, o_alen, o_ic2, o_aald, o_as, o_ifn, o_if, o_inc, nth_3, nth_0, lset_4, nth_4, nth_1, nth_2, lset_2, mV_6_2, al_6, hc.p6_2, kd_98, ix_98, hc.l98, hc.a6, ix_6, mV_1_1, al_1, cI_1, ix_1, mV_1_7, cats_nil, cats_cons, rf_s, rf_n, isR_r, isR_n, isR_rf, cat_i, cat_l, cat_r, cat_n, cat_rf, unl_i, unl_l, unl_r, unl_n, unl_j, unl_rf, orf_r, orf_n, orf_rf, rf_null, mA_pm, mL_pm, mP_pm, List.length_cons, List.length_nil, List.cons_append, List.nil_append, Nat.reduceAdd, Nat.reduceLeDiff, Nat.reduceLT, Nat.reduceEqDiff, Nat.zero_add, Nat.add_zero, Nat.le_refl, Nat.zero_le, true_and, and_true, true_or, or_true, false_or, or_false, reduceIte, ofN]
      refine ⟨fun _ => ?_, fun z => absurd (by decide) z⟩
      apply h52
      simp only [B_X6_waitingOf_52, o_il, o_iret, nth_2, cats_nil, cats_cons, rf_s, rf_n, isR_r, isR_n, isR_rf, cat_i, cat_l, cat_r, cat_n, cat_rf, unl_i, unl_l, unl_r, unl_n, unl_j, unl_rf, orf_r, orf_n, orf_rf, rf_null, mA_pm, mL_pm, mP_pm, List.length_cons, List.length_nil, List.cons_append, List.nil_append, Nat.reduceAdd, Nat.reduceLeDiff, Nat.reduceLT, Nat.reduceEqDiff, Nat.zero_add, Nat.add_zero, Nat.le_refl, Nat.zero_le, true_and, and_true, true_or, or_true, false_or, or_false, reduceIte]
      rw [show min 150 nA = nA by omega]
      exact H
    | succ m ih =>
      intro i w4 hi
      have hi150 : i < 150 := by omega
      have k46 : ∀ x w4, x = nI (cn (fun k => decide (mI c 1 1 k = s ∧ mI c 1 7 k = 0)) (min (i + 1) nA)) → X 46 [.ref (ob 6 0), .int s, .int x, .int (nI i), w4] [] (pm c M) 0 0 := by
        intro x w4 e
        apply h46
        simp only [B_X6_waitingOf_46, o_inc, nth_3, lset_3, cats_nil, cats_cons, rf_s, rf_n, isR_r, isR_n, isR_rf, cat_i, cat_l, cat_r, cat_n, cat_rf, unl_i, unl_l, unl_r, unl_n, unl_j, unl_rf, orf_r, orf_n, orf_rf, rf_null, mA_pm, mL_pm, mP_pm, List.length_cons, List.length_nil, List.cons_append, List.nil_append, Nat.reduceAdd, Nat.reduceLeDiff, Nat.reduceLT, Nat.reduceEqDiff, Nat.zero_add, Nat.add_zero, Nat.le_refl, Nat.zero_le, true_and, and_true, true_or, or_true, false_or, or_false, reduceIte, nI_1]
        rw [e]
        exact ih (i + 1) w4 (by omega)
      apply h4
      by_cases hn : i < nA
      · simp only [B_X6_waitingOf_4, o_il, o_al, o_gf, o_alen, o_ic2, o_aald, o_as, o_ifn, o_if, o_inc, nth_3, nth_0, lset_4, nth_4, nth_1, nth_2, lset_2, mV_6_2, al_6, hc.p6_2, kd_98, ix_98, hc.l98, hc.a6, ix_6, mV_1_1, al_1, cI_1, ix_1, mV_1_7, cats_nil, cats_cons, rf_s, rf_n, isR_r, isR_n, isR_rf, cat_i, cat_l, cat_r, cat_n, cat_rf, unl_i, unl_l, unl_r, unl_n, unl_j, unl_rf, orf_r, orf_n, orf_rf, rf_null, mA_pm, mL_pm, mP_pm, List.length_cons, List.length_nil, List.cons_append, List.nil_append, Nat.reduceAdd, Nat.reduceLeDiff, Nat.reduceLT, Nat.reduceEqDiff, Nat.zero_add, Nat.add_zero, Nat.le_refl, Nat.zero_le, true_and, and_true, true_or, or_true, false_or, or_false, reduceIte, ofN, vin hi150, ncl hi150, hd.2.2.1 i hi150, if_pos hn, hd.2.2.2.2.2 i hn, rnn, false_imp_iff, not_false_eq_true, true_imp_iff]
        rw [show min i nA = i by omega]
        rw [show min (i + 1) nA = i + 1 by omega, nI_cn] at k46
        refine ⟨fun z => absurd z (by rw [nI_le_iff]; omega), fun _ => ⟨fun q => ⟨fun q2 => k46 _ _ (by simp [q, q2]), fun q2 => k46 _ _ (by simp [q2])⟩, fun q => k46 _ _ (by simp [q])⟩⟩
      · simp only [B_X6_waitingOf_4, o_il, o_al, o_gf, o_alen, o_ic2, o_aald, o_as, o_ifn, o_if, o_inc, nth_3, nth_0, lset_4, nth_4, nth_1, nth_2, lset_2, mV_6_2, al_6, hc.p6_2, kd_98, ix_98, hc.l98, hc.a6, ix_6, mV_1_1, al_1, cI_1, ix_1, mV_1_7, cats_nil, cats_cons, rf_s, rf_n, isR_r, isR_n, isR_rf, cat_i, cat_l, cat_r, cat_n, cat_rf, unl_i, unl_l, unl_r, unl_n, unl_j, unl_rf, orf_r, orf_n, orf_rf, rf_null, mA_pm, mL_pm, mP_pm, List.length_cons, List.length_nil, List.cons_append, List.nil_append, Nat.reduceAdd, Nat.reduceLeDiff, Nat.reduceLT, Nat.reduceEqDiff, Nat.zero_add, Nat.add_zero, Nat.le_refl, Nat.zero_le, true_and, and_true, true_or, or_true, false_or, or_false, reduceIte, ofN, vin hi150, ncl hi150, hd.2.2.1 i hi150, if_neg hn]
        refine ⟨fun z => absurd z (by rw [nI_le_iff]; omega), fun _ => ⟨fun _ => k46 _ _ (by rw [show min (i + 1) nA = min i nA by omega]), fun z => by first | exact absurd rfl z | exact absurd trivial z⟩⟩
  apply h0
  simp only [B_X6_waitingOf_0, o_ic, o_is, lset_2, lset_3, cats_nil, cats_cons, rf_s, rf_n, isR_r, isR_n, isR_rf, cat_i, cat_l, cat_r, cat_n, cat_rf, unl_i, unl_l, unl_r, unl_n, unl_j, unl_rf, orf_r, orf_n, orf_rf, rf_null, mA_pm, mL_pm, mP_pm, List.length_cons, List.length_nil, List.cons_append, List.nil_append, Nat.reduceAdd, Nat.reduceLeDiff, Nat.reduceLT, Nat.reduceEqDiff, Nat.zero_add, Nat.add_zero, Nat.le_refl, Nat.zero_le, true_and, and_true, true_or, or_true, false_or, or_false, reduceIte]
  have := loop 150 0 jk (by omega)
  rw [show min 0 nA = 0 by omega] at this
  exact this
end ZC13
