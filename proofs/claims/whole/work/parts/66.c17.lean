/-! The class beside the model: tapes; the tape that is overdue -/
def CTp (c : HP) (M : MD) (nT : Nat) : Prop := ∀ t, t < nT → mI c 5 0 t = M.1 20 t ∧ mI c 5 1 t = M.1 21 t ∧ mI c 5 2 t = M.1 22 t ∧ mI c 5 4 t = M.1 23 t ∧ mI c 5 5 t = M.1 24 t ∧ mI c 5 6 t = bi (M.1 43 0 = nI t ∨ M.1 43 1 = nI t)
theorem CTp_free {c : HP} {M : MD} {nT t : Nat} (h : CTp c M nT) (ht : t < nT) : (mI c 5 5 t = 0 ∧ mI c 5 6 t = 0) ↔ hmP M t := by
  obtain ⟨-, -, -, -, h5, h6⟩ := h t ht
  rw [h5, h6]
  constructor
  · rintro ⟨q1, q2⟩
    exact ⟨q1, bi_e0 q2⟩
  · rintro ⟨q1, q2⟩
    exact ⟨q1, bi_f q2⟩
section ZC17
variable {l : Launch} {D : DD} {d : Nat} {c : HP} {M N : MD} {Q : List Value → HP → Prop}
theorem sp_free17 (hc : SKF c) {nT nR nA k : Nat} (hd : SKD c nT nR nA) (hT2 : nT ≤ 12) (hT : CTp c M nT) (hG : GA M nT nA) (hk : k < nA) (H : Q [.int (bi (hmP M (tpN M k)))] (pm c N)) : K_X6_isFree l D (d + 2) [.ref (ob 6 0), .int (M.1 26 k)] (pm c N) Q := by
  obtain ⟨t, p, g1, g2, -⟩ := hG k hk
  have ht : t < 12 := by omega
  have e : tpN M k = t := by unfold tpN; rw [g2, ncl ht]
  refine sp_isFree6 hc hd hT2 _ (fun r hr => ?_)
  rw [e] at H
  rcases hr with ⟨rfl, t', h1, h2, h3⟩ | ⟨rfl, h⟩
  · rw [g2, nI_eq_iff] at h2
    rw [← h2] at h3
    rw [bi_t ((CTp_free hT g1).mp h3)] at H
    exact H
  · rw [bi_f (fun z => h t g1 g2 ((CTp_free hT g1).mpr z))] at H
    exact H
theorem sp_overdueTape (hc : SKF c) {nT nR nA : Nat} (hd : SKD c nT nR nA) (hT2 : nT ≤ 12) (hA2 : nA ≤ 150) (hA : CA c M nA) (hT : CTp c M nT) (hG : GA M nT nA) (h10 : mI c 6 10 0 = M.1 7 9) (h12 : mI c 6 12 0 = M.1 7 11) (hm : ∀ j k, j ≤ k → k < nA → M.1 7 9 - M.1 29 k ≤ M.1 7 9 - M.1 29 j) (H : ∀ r, (∃ k, k < nA ∧ dueP M k ∧ (∀ j, j < k → ¬ dueP M j) ∧ r = M.1 26 k) ∨ ((∀ k, k < nA → ¬ dueP M k) ∧ r = -1) → Q [.int r] (pm c N)) : K_X6_overdueTape l D (d + 3) [.ref (ob 6 0)] (pm c N) Q := by
  refine m_X6_overdueTape (lsA := [.ref (ob 6 0), jk, jk]) rfl (Nat.le_of_ble_eq_true rfl) ?_
  intro X h0 h2 h38 h40 h70 h76
  have loop : ∀ m i w2, i + m = 150 → (∀ j, j < i → j < nA → ¬ dueP M j) → X 2 [.ref (ob 6 0), .int (nI i), w2] [] (pm c N) 0 0 := by
    intro m
    induction m with
    | zero =>
      intro i w2 hi h
      obtain rfl : i = 150 := by omega
      apply h2
      simp only [B_X6_overdueTape_2, o_il, o_al, o_gf, o_alen, o_ic2, o_aald, o_as, o_ifn, o_ii, nth_1, nth_0, lset_2, nth_2, mV_6_2, al_6, hc.p6_2, kd_98, ix_98, hc.l98, hc.a6, ix_6, mV_6_10, cI_6, mV_1_4, al_1, cI_1, ix_1, mV_6_12, cats_nil, cats_cons, rf_s, rf_n, isR_r, isR_n, isR_rf, cat_i, cat_l, cat_r, cat_n, cat_rf, unl_i, unl_l, unl_r, unl_n, unl_j, unl_rf, orf_r, orf_n, orf_rf, rf_null, mA_pm, mL_pm, mP_pm, List.length_cons, List.length_nil, List.cons_append, List.nil_append, Nat.reduceAdd, Nat.reduceLeDiff, Nat.reduceLT, Nat.reduceEqDiff, Nat.zero_add, Nat.add_zero, Nat.le_refl, Nat.zero_le, true_and, and_true, true_or, or_true, false_or, or_false, reduceIte, ofN]
      refine ⟨fun _ => ?_, fun z => absurd (by decide) z⟩
      apply h76
      simp only [B_X6_overdueTape_76, o_ic, o_iret, cats_nil, cats_cons, rf_s, rf_n, isR_r, isR_n, isR_rf, cat_i, cat_l, cat_r, cat_n, cat_rf, unl_i, unl_l, unl_r, unl_n, unl_j, unl_rf, orf_r, orf_n, orf_rf, rf_null, mA_pm, mL_pm, mP_pm, List.length_cons, List.length_nil, List.cons_append, List.nil_append, Nat.reduceAdd, Nat.reduceLeDiff, Nat.reduceLT, Nat.reduceEqDiff, Nat.zero_add, Nat.add_zero, Nat.le_refl, Nat.zero_le, true_and, and_true, true_or, or_true, false_or, or_false, reduceIte]
      exact H (-1) (Or.inr ⟨fun k hk => h k (by omega) hk, rfl⟩)
    | succ m ih =>
      intro i w2 hi h
      have hi150 : i < 150 := by omega
      have k38 : ∀ w2, (∀ k, k < nA → ¬ dueP M k) → X 38 [.ref (ob 6 0), .int (nI i), w2] [] (pm c N) 0 0 := by
        intro w2 q
        apply h38
        simp only [B_X6_overdueTape_38, o_ic, o_iret, cats_nil, cats_cons, rf_s, rf_n, isR_r, isR_n, isR_rf, cat_i, cat_l, cat_r, cat_n, cat_rf, unl_i, unl_l, unl_r, unl_n, unl_j, unl_rf, orf_r, orf_n, orf_rf, rf_null, mA_pm, mL_pm, mP_pm, List.length_cons, List.length_nil, List.cons_append, List.nil_append, Nat.reduceAdd, Nat.reduceLeDiff, Nat.reduceLT, Nat.reduceEqDiff, Nat.zero_add, Nat.add_zero, Nat.le_refl, Nat.zero_le, true_and, and_true, true_or, or_true, false_or, or_false, reduceIte]
        exact H (-1) (Or.inr ⟨q, rfl⟩)
      apply h2
      by_cases hn : i < nA
      · have ha := hd.2.2.2.2.2 i hn
        obtain ⟨a0, a1, a2, a3, a4, a5, a6, a7, a8, a9⟩ := hA i hn
        have k70 : ∀ w2, ¬ dueP M i → X 70 [.ref (ob 6 0), .int (nI i), w2] [] (pm c N) 0 0 := by
          intro w2 q
          apply h70
          simp only [B_X6_overdueTape_70, o_inc, nth_1, lset_1, cats_nil, cats_cons, rf_s, rf_n, isR_r, isR_n, isR_rf, cat_i, cat_l, cat_r, cat_n, cat_rf, unl_i, unl_l, unl_r, unl_n, unl_j, unl_rf, orf_r, orf_n, orf_rf, rf_null, mA_pm, mL_pm, mP_pm, List.length_cons, List.length_nil, List.cons_append, List.nil_append, Nat.reduceAdd, Nat.reduceLeDiff, Nat.reduceLT, Nat.reduceEqDiff, Nat.zero_add, Nat.add_zero, Nat.le_refl, Nat.zero_le, true_and, and_true, true_or, or_true, false_or, or_false, reduceIte, nI_1]
          exact ih (i + 1) w2 (by omega) (nx h (fun _ => q))
        simp only [B_X6_overdueTape_2, o_il, o_al, o_gf, o_alen, o_ic2, o_aald, o_as, o_ifn, o_ii, nth_1, nth_0, lset_2, nth_2, mV_6_2, al_6, hc.p6_2, kd_98, ix_98, hc.l98, hc.a6, ix_6, mV_6_10, cI_6, mV_1_4, al_1, cI_1, ix_1, mV_6_12, cats_nil, cats_cons, rf_s, rf_n, isR_r, isR_n, isR_rf, cat_i, cat_l, cat_r, cat_n, cat_rf, unl_i, unl_l, unl_r, unl_n, unl_j, unl_rf, orf_r, orf_n, orf_rf, rf_null, mA_pm, mL_pm, mP_pm, List.length_cons, List.length_nil, List.cons_append, List.nil_append, Nat.reduceAdd, Nat.reduceLeDiff, Nat.reduceLT, Nat.reduceEqDiff, Nat.zero_add, Nat.add_zero, Nat.le_refl, Nat.zero_le, true_and, and_true, true_or, or_true, false_or, or_false, reduceIte, ofN, vin hi150, ncl hi150, hd.2.2.1 i hi150, if_pos hn, ha, rnn, false_imp_iff, not_false_eq_true, true_imp_iff, h10, h12, a4]
        refine ⟨fun z => absurd z (by rw [nI_le_iff]; omega), fun _ => ⟨fun q => ?_, fun q => k38 _ (fun k hk z => ?_)⟩⟩
        · apply h40
          simp only [B_X6_overdueTape_40, o_al, o_gf, o_if, o_iret, nth_2, nth_0, opV_0, opV_1, mV_1_7, al_1, cI_1, ix_1, mV_1_1, al_6, ix_6, hc.a6, cats_nil, cats_cons, rf_s, rf_n, isR_r, isR_n, isR_rf, cat_i, cat_l, cat_r, cat_n, cat_rf, unl_i, unl_l, unl_r, unl_n, unl_j, unl_rf, orf_r, orf_n, orf_rf, rf_null, mA_pm, mL_pm, mP_pm, List.length_cons, List.length_nil, List.cons_append, List.nil_append, Nat.reduceAdd, Nat.reduceLeDiff, Nat.reduceLT, Nat.reduceEqDiff, Nat.zero_add, Nat.add_zero, Nat.le_refl, Nat.zero_le, true_and, and_true, true_or, or_true, false_or, or_false, reduceIte, ha, a7, al_1]
          refine ⟨fun q1 => ?_, fun q1 => k70 _ (fun z => q1 z.1.1)⟩
          refine sp_isScrub ha ?_
          rw [a0]
          simp only [o_al, o_gf, o_if, o_iret, nth_2, nth_0, opV_0, opV_1, mV_1_7, al_1, cI_1, ix_1, mV_1_1, al_6, ix_6, hc.a6, cats_nil, cats_cons, rf_s, rf_n, isR_r, isR_n, isR_rf, cat_i, cat_l, cat_r, cat_n, cat_rf, unl_i, unl_l, unl_r, unl_n, unl_j, unl_rf, orf_r, orf_n, orf_rf, rf_null, mA_pm, mL_pm, mP_pm, List.length_cons, List.length_nil, List.cons_append, List.nil_append, Nat.reduceAdd, Nat.reduceLeDiff, Nat.reduceLT, Nat.reduceEqDiff, Nat.zero_add, Nat.add_zero, Nat.le_refl, Nat.zero_le, true_and, and_true, true_or, or_true, false_or, or_false, reduceIte, ha, a1]
          refine ⟨fun q2 => ?_, fun q2 => k70 _ (fun z => z.1.2.1 (bi_ne0 q2))⟩
          refine sp_free17 hc hd hT2 hT hG hn ?_
          simp only [o_al, o_gf, o_if, o_iret, nth_2, nth_0, opV_0, opV_1, mV_1_7, al_1, cI_1, ix_1, mV_1_1, al_6, ix_6, hc.a6, cats_nil, cats_cons, rf_s, rf_n, isR_r, isR_n, isR_rf, cat_i, cat_l, cat_r, cat_n, cat_rf, unl_i, unl_l, unl_r, unl_n, unl_j, unl_rf, orf_r, orf_n, orf_rf, rf_null, mA_pm, mL_pm, mP_pm, List.length_cons, List.length_nil, List.cons_append, List.nil_append, Nat.reduceAdd, Nat.reduceLeDiff, Nat.reduceLT, Nat.reduceEqDiff, Nat.zero_add, Nat.add_zero, Nat.le_refl, Nat.zero_le, true_and, and_true, true_or, or_true, false_or, or_false, reduceIte, ha, a1]
          refine ⟨fun q3 => k70 _ (fun z => bi_e0 q3 z.1.2.2), fun q3 => H _ (Or.inl ⟨i, hn, ⟨⟨q1, bi_e0 q2, bi_ne0 q3⟩, q⟩, fun j hj => h j hj (by omega), rfl⟩)⟩
        · rcases Nat.lt_or_ge k i with y | y
          · exact h k y hk z
          · exact q (Int32.le_trans z.2 (hm i k y hk))
      · simp only [B_X6_overdueTape_2, o_il, o_al, o_gf, o_alen, o_ic2, o_aald, o_as, o_ifn, o_ii, nth_1, nth_0, lset_2, nth_2, mV_6_2, al_6, hc.p6_2, kd_98, ix_98, hc.l98, hc.a6, ix_6, mV_6_10, cI_6, mV_1_4, al_1, cI_1, ix_1, mV_6_12, cats_nil, cats_cons, rf_s, rf_n, isR_r, isR_n, isR_rf, cat_i, cat_l, cat_r, cat_n, cat_rf, unl_i, unl_l, unl_r, unl_n, unl_j, unl_rf, orf_r, orf_n, orf_rf, rf_null, mA_pm, mL_pm, mP_pm, List.length_cons, List.length_nil, List.cons_append, List.nil_append, Nat.reduceAdd, Nat.reduceLeDiff, Nat.reduceLT, Nat.reduceEqDiff, Nat.zero_add, Nat.add_zero, Nat.le_refl, Nat.zero_le, true_and, and_true, true_or, or_true, false_or, or_false, reduceIte, ofN, vin hi150, ncl hi150, hd.2.2.1 i hi150, if_neg hn]
        refine ⟨fun z => absurd z (by rw [nI_le_iff]; omega), fun _ => ⟨fun _ => k38 _ (fun k hk => h k (by omega) hk), fun z => by first | exact absurd rfl z | exact absurd trivial z⟩⟩
  apply h0
  simp only [B_X6_overdueTape_0, o_ic, o_is, lset_1, cats_nil, cats_cons, rf_s, rf_n, isR_r, isR_n, isR_rf, cat_i, cat_l, cat_r, cat_n, cat_rf, unl_i, unl_l, unl_r, unl_n, unl_j, unl_rf, orf_r, orf_n, orf_rf, rf_null, mA_pm, mL_pm, mP_pm, List.length_cons, List.length_nil, List.cons_append, List.nil_append, Nat.reduceAdd, Nat.reduceLeDiff, Nat.reduceLT, Nat.reduceEqDiff, Nat.zero_add, Nat.add_zero, Nat.le_refl, Nat.zero_le, true_and, and_true, true_or, or_true, false_or, or_false, reduceIte]
  exact loop 150 0 _ (by omega) (fun t ht => by omega)
end ZC17
