/-! The class: the scrub's tape -/
section ZC18
variable {l : Launch} {D : DD} {d : Nat} {c : HP} {M N : MD} {Q : List Value → HP → Prop}
theorem sp_scrubTape (hc : SKF c) {nT nR nA : Nat} (hd : SKD c nT nR nA) (hT2 : nT ≤ 12) (hA2 : nA ≤ 150) (hA : CA c M nA) (hT : CTp c M nT) (hG : GA M nT nA) (h10 : mI c 6 10 0 = M.1 7 9) (H : ∀ r, (∃ i, fstP M nA i ∧ (mI c 6 14 0 = 0 ∨ ¬ M.1 7 9 + 100 < M.1 27 i) ∧ r = M.1 26 i) ∨ ((∀ i, fstP M nA i → ¬ (mI c 6 14 0 = 0 ∨ ¬ M.1 7 9 + 100 < M.1 27 i)) ∧ r = -1) → Q [.int r] (pm c N)) : K_X6_scrubTape l D (d + 3) [.ref (ob 6 0)] (pm c N) Q := by
  refine m_X6_scrubTape (lsA := [.ref (ob 6 0), jk, jk, jk]) rfl (Nat.le_of_ble_eq_true rfl) ?_
  intro X h0 h4 h64 h66 h72 h78 h99 h106 h107
  have fin0 : ∀ w2 w3, (∀ j, j < nA → ¬ scrP M j) → X 72 [.ref (ob 6 0), .null, w2, w3] [] (pm c N) 0 0 := by
    intro w2 w3 h
    apply h72
    simp only [B_X6_scrubTape_72, o_al, o_ifn, o_ic, o_iret, nth_1, cats_nil, cats_cons, rf_s, rf_n, isR_r, isR_n, isR_rf, cat_i, cat_l, cat_r, cat_n, cat_rf, unl_i, unl_l, unl_r, unl_n, unl_j, unl_rf, orf_r, orf_n, orf_rf, rf_null, mA_pm, mL_pm, mP_pm, List.length_cons, List.length_nil, List.cons_append, List.nil_append, Nat.reduceAdd, Nat.reduceLeDiff, Nat.reduceLT, Nat.reduceEqDiff, Nat.zero_add, Nat.add_zero, Nat.le_refl, Nat.zero_le, true_and, and_true, true_or, or_true, false_or, or_false, reduceIte]
    refine ⟨fun _ => H (-1) (Or.inr ⟨fun i hi => absurd hi.2.1 (h i hi.1), rfl⟩), fun z => by first | exact absurd rfl z | exact absurd trivial z⟩
  have fin1 : ∀ w2 w3 f, fstP M nA f → X 72 [.ref (ob 6 0), .ref (ob 1 f), w2, w3] [] (pm c N) 0 0 := by
    intro w2 w3 f hf
    have ha := hd.2.2.2.2.2 f hf.1
    obtain ⟨a0, a1, a2, a3, a4, a5, a6, a7, a8, a9⟩ := hA f hf.1
    have k99 : (mI c 6 14 0 = 0 ∨ ¬ M.1 7 9 + 100 < M.1 27 f) → X 99 [.ref (ob 6 0), .ref (ob 1 f), w2, w3] [] (pm c N) 0 0 := by
      intro q
      apply h99
      simp only [B_X6_scrubTape_99, o_al, o_gf, nth_1, mV_1_1, al_1, cI_1, ix_1, cats_nil, cats_cons, rf_s, rf_n, isR_r, isR_n, isR_rf, cat_i, cat_l, cat_r, cat_n, cat_rf, unl_i, unl_l, unl_r, unl_n, unl_j, unl_rf, orf_r, orf_n, orf_rf, rf_null, mA_pm, mL_pm, mP_pm, List.length_cons, List.length_nil, List.cons_append, List.nil_append, Nat.reduceAdd, Nat.reduceLeDiff, Nat.reduceLT, Nat.reduceEqDiff, Nat.zero_add, Nat.add_zero, Nat.le_refl, Nat.zero_le, true_and, and_true, true_or, or_true, false_or, or_false, reduceIte, ha, a1]
      apply h107
      simp only [B_X6_scrubTape_107, o_iret, cats_nil, cats_cons, rf_s, rf_n, isR_r, isR_n, isR_rf, cat_i, cat_l, cat_r, cat_n, cat_rf, unl_i, unl_l, unl_r, unl_n, unl_j, unl_rf, orf_r, orf_n, orf_rf, rf_null, mA_pm, mL_pm, mP_pm, List.length_cons, List.length_nil, List.cons_append, List.nil_append, Nat.reduceAdd, Nat.reduceLeDiff, Nat.reduceLT, Nat.reduceEqDiff, Nat.zero_add, Nat.add_zero, Nat.le_refl, Nat.zero_le, true_and, and_true, true_or, or_true, false_or, or_false, reduceIte]
      exact H _ (Or.inl ⟨f, hf, q, rfl⟩)
    apply h72
    simp only [B_X6_scrubTape_72, o_al, o_ifn, o_ic, o_iret, nth_1, cats_nil, cats_cons, rf_s, rf_n, isR_r, isR_n, isR_rf, cat_i, cat_l, cat_r, cat_n, cat_rf, unl_i, unl_l, unl_r, unl_n, unl_j, unl_rf, orf_r, orf_n, orf_rf, rf_null, mA_pm, mL_pm, mP_pm, List.length_cons, List.length_nil, List.cons_append, List.nil_append, Nat.reduceAdd, Nat.reduceLeDiff, Nat.reduceLT, Nat.reduceEqDiff, Nat.zero_add, Nat.add_zero, Nat.le_refl, Nat.zero_le, true_and, and_true, true_or, or_true, false_or, or_false, reduceIte, rnn, false_imp_iff, not_false_eq_true, true_imp_iff]
    apply h78
    simp only [B_X6_scrubTape_78, o_al, o_gf, o_if, o_ic, o_ii, o_ic2, nth_0, nth_1, mV_6_14, al_6, cI_6, hc.a6, ix_6, mV_1_2, al_1, cI_1, ix_1, mV_6_10, cats_nil, cats_cons, rf_s, rf_n, isR_r, isR_n, isR_rf, cat_i, cat_l, cat_r, cat_n, cat_rf, unl_i, unl_l, unl_r, unl_n, unl_j, unl_rf, orf_r, orf_n, orf_rf, rf_null, mA_pm, mL_pm, mP_pm, List.length_cons, List.length_nil, List.cons_append, List.nil_append, Nat.reduceAdd, Nat.reduceLeDiff, Nat.reduceLT, Nat.reduceEqDiff, Nat.zero_add, Nat.add_zero, Nat.le_refl, Nat.zero_le, true_and, and_true, true_or, or_true, false_or, or_false, reduceIte, ha, a2, h10]
    refine ⟨fun q => k99 (Or.inl q), fun q => ⟨fun q2 => ?_, fun q2 => k99 (Or.inr q2)⟩⟩
    apply h106
    simp only [B_X6_scrubTape_106, o_ic, cats_nil, cats_cons, rf_s, rf_n, isR_r, isR_n, isR_rf, cat_i, cat_l, cat_r, cat_n, cat_rf, unl_i, unl_l, unl_r, unl_n, unl_j, unl_rf, orf_r, orf_n, orf_rf, rf_null, mA_pm, mL_pm, mP_pm, List.length_cons, List.length_nil, List.cons_append, List.nil_append, Nat.reduceAdd, Nat.reduceLeDiff, Nat.reduceLT, Nat.reduceEqDiff, Nat.zero_add, Nat.add_zero, Nat.le_refl, Nat.zero_le, true_and, and_true, true_or, or_true, false_or, or_false, reduceIte]
    apply h107
    simp only [B_X6_scrubTape_107, o_iret, cats_nil, cats_cons, rf_s, rf_n, isR_r, isR_n, isR_rf, cat_i, cat_l, cat_r, cat_n, cat_rf, unl_i, unl_l, unl_r, unl_n, unl_j, unl_rf, orf_r, orf_n, orf_rf, rf_null, mA_pm, mL_pm, mP_pm, List.length_cons, List.length_nil, List.cons_append, List.nil_append, Nat.reduceAdd, Nat.reduceLeDiff, Nat.reduceLT, Nat.reduceEqDiff, Nat.zero_add, Nat.add_zero, Nat.le_refl, Nat.zero_le, true_and, and_true, true_or, or_true, false_or, or_false, reduceIte]
    refine H (-1) (Or.inr ⟨fun i hi z => ?_, rfl⟩)
    rw [fstP_uni hi hf] at z
    rcases z with z | z
    · exact q z
    · exact z q2
  have loop : ∀ m i v1 w3, i + m = 150 → ((v1 = .null ∧ ∀ j, j < min i nA → ¬ scrP M j) ∨ ∃ f, v1 = .ref (ob 1 f) ∧ fstP M (min i nA) f) → X 4 [.ref (ob 6 0), v1, .int (nI i), w3] [] (pm c N) 0 0 := by
    intro m
    induction m with
    | zero =>
      intro i v1 w3 hi h
      obtain rfl : i = 150 := by omega
      rw [show min 150 nA = nA by omega] at h
      apply h4
      simp only [B_X6_scrubTape_4, o_il, o_al, o_gf, o_alen, o_ic2, o_aald, o_as, o_ifn, o_if, nth_2, nth_0, lset_3, nth_3, nth_1, opV_0, opV_1, mV_6_2, al_6, hc.p6_2, kd_98, ix_98, hc.l98, hc.a6, ix_6, mV_1_7, al_1, cI_1, ix_1, mV_1_1, mV_1_2, cats_nil, cats_cons, rf_s, rf_n, isR_r, isR_n, isR_rf, cat_i, cat_l, cat_r, cat_n, cat_rf, unl_i, unl_l, unl_r, unl_n, unl_j, unl_rf, orf_r, orf_n, orf_rf, rf_null, mA_pm, mL_pm, mP_pm, List.length_cons, List.length_nil, List.cons_append, List.nil_append, Nat.reduceAdd, Nat.reduceLeDiff, Nat.reduceLT, Nat.reduceEqDiff, Nat.zero_add, Nat.add_zero, Nat.le_refl, Nat.zero_le, true_and, and_true, true_or, or_true, false_or, or_false, reduceIte, ofN]
      refine ⟨fun _ => ?_, fun z => absurd (by decide) z⟩
      rcases h with ⟨rfl, h⟩ | ⟨f, rfl, h⟩
      · exact fin0 _ _ h
      · exact fin1 _ _ f h
    | succ m ih =>
      intro i v1 w3 hi h
      have hi150 : i < 150 := by omega
      have k66 : ∀ v1 w3, isR v1 → ((v1 = .null ∧ ∀ j, j < min (i + 1) nA → ¬ scrP M j) ∨ ∃ f, v1 = .ref (ob 1 f) ∧ fstP M (min (i + 1) nA) f) → X 66 [.ref (ob 6 0), v1, .int (nI i), w3] [] (pm c N) 0 0 := by
        intro v1 w3 hv q
        apply h66
        rcases q with ⟨rfl, q⟩ | ⟨f, rfl, q⟩
        · simp only [B_X6_scrubTape_66, o_inc, nth_2, lset_2, cats_nil, cats_cons, rf_s, rf_n, isR_r, isR_n, isR_rf, cat_i, cat_l, cat_r, cat_n, cat_rf, unl_i, unl_l, unl_r, unl_n, unl_j, unl_rf, orf_r, orf_n, orf_rf, rf_null, mA_pm, mL_pm, mP_pm, List.length_cons, List.length_nil, List.cons_append, List.nil_append, Nat.reduceAdd, Nat.reduceLeDiff, Nat.reduceLT, Nat.reduceEqDiff, Nat.zero_add, Nat.add_zero, Nat.le_refl, Nat.zero_le, true_and, and_true, true_or, or_true, false_or, or_false, reduceIte, nI_1]
          exact ih (i + 1) _ _ (by omega) (Or.inl ⟨rfl, q⟩)
        · simp only [B_X6_scrubTape_66, o_inc, nth_2, lset_2, cats_nil, cats_cons, rf_s, rf_n, isR_r, isR_n, isR_rf, cat_i, cat_l, cat_r, cat_n, cat_rf, unl_i, unl_l, unl_r, unl_n, unl_j, unl_rf, orf_r, orf_n, orf_rf, rf_null, mA_pm, mL_pm, mP_pm, List.length_cons, List.length_nil, List.cons_append, List.nil_append, Nat.reduceAdd, Nat.reduceLeDiff, Nat.reduceLT, Nat.reduceEqDiff, Nat.zero_add, Nat.add_zero, Nat.le_refl, Nat.zero_le, true_and, and_true, true_or, or_true, false_or, or_false, reduceIte, nI_1]
          exact ih (i + 1) _ _ (by omega) (Or.inr ⟨f, rfl, q⟩)
      apply h4
      by_cases hn : i < nA
      · have ha := hd.2.2.2.2.2 i hn
        obtain ⟨a0, a1, a2, a3, a4, a5, a6, a7, a8, a9⟩ := hA i hn
        rw [show min i nA = i by omega] at h
        rw [show min (i + 1) nA = i + 1 by omega] at k66
        have kskip : ¬ scrP M i → X 66 [.ref (ob 6 0), v1, .int (nI i), .ref (ob 1 i)] [] (pm c N) 0 0 := by
          intro q
          rcases h with ⟨rfl, h⟩ | ⟨f, rfl, h⟩
          · exact k66 _ _ trivial (Or.inl ⟨rfl, nx h q⟩)
          · exact k66 _ _ trivial (Or.inr ⟨f, rfl, by have := h.1; omega, h.2.1, nx h.2.2 (fun z => absurd z q)⟩)
        have knew : scrP M i → (∀ j, j < i → scrP M j → M.1 27 i < M.1 27 j) → X 64 [.ref (ob 6 0), v1, .int (nI i), .ref (ob 1 i)] [] (pm c N) 0 0 := by
          intro q q2
          apply h64
          simp only [B_X6_scrubTape_64, o_al, o_as, nth_3, lset_1, cats_nil, cats_cons, rf_s, rf_n, isR_r, isR_n, isR_rf, cat_i, cat_l, cat_r, cat_n, cat_rf, unl_i, unl_l, unl_r, unl_n, unl_j, unl_rf, orf_r, orf_n, orf_rf, rf_null, mA_pm, mL_pm, mP_pm, List.length_cons, List.length_nil, List.cons_append, List.nil_append, Nat.reduceAdd, Nat.reduceLeDiff, Nat.reduceLT, Nat.reduceEqDiff, Nat.zero_add, Nat.add_zero, Nat.le_refl, Nat.zero_le, true_and, and_true, true_or, or_true, false_or, or_false, reduceIte]
          exact k66 _ _ trivial (Or.inr ⟨i, rfl, by omega, q, nx (fun j hj z => Or.inl (q2 j hj z)) (fun _ => Or.inr ⟨rfl, Nat.le_refl _⟩)⟩)
        simp only [B_X6_scrubTape_4, o_il, o_al, o_gf, o_alen, o_ic2, o_aald, o_as, o_ifn, o_if, nth_2, nth_0, lset_3, nth_3, nth_1, opV_0, opV_1, mV_6_2, al_6, hc.p6_2, kd_98, ix_98, hc.l98, hc.a6, ix_6, mV_1_7, al_1, cI_1, ix_1, mV_1_1, mV_1_2, cats_nil, cats_cons, rf_s, rf_n, isR_r, isR_n, isR_rf, cat_i, cat_l, cat_r, cat_n, cat_rf, unl_i, unl_l, unl_r, unl_n, unl_j, unl_rf, orf_r, orf_n, orf_rf, rf_null, mA_pm, mL_pm, mP_pm, List.length_cons, List.length_nil, List.cons_append, List.nil_append, Nat.reduceAdd, Nat.reduceLeDiff, Nat.reduceLT, Nat.reduceEqDiff, Nat.zero_add, Nat.add_zero, Nat.le_refl, Nat.zero_le, true_and, and_true, true_or, or_true, false_or, or_false, reduceIte, ofN, vin hi150, ncl hi150, hd.2.2.1 i hi150, if_pos hn, ha, rnn, false_imp_iff, not_false_eq_true, true_imp_iff, a7, al_1]
        refine ⟨fun z => absurd z (by rw [nI_le_iff]; omega), fun _ => ⟨fun q1 => ?_, fun q1 => kskip (fun z => q1 z.1)⟩⟩
        refine sp_isScrub ha ?_
        rw [a0]
        simp only [o_il, o_al, o_gf, o_alen, o_ic2, o_aald, o_as, o_ifn, o_if, nth_2, nth_0, lset_3, nth_3, nth_1, opV_0, opV_1, mV_6_2, al_6, hc.p6_2, kd_98, ix_98, hc.l98, hc.a6, ix_6, mV_1_7, al_1, cI_1, ix_1, mV_1_1, mV_1_2, cats_nil, cats_cons, rf_s, rf_n, isR_r, isR_n, isR_rf, cat_i, cat_l, cat_r, cat_n, cat_rf, unl_i, unl_l, unl_r, unl_n, unl_j, unl_rf, orf_r, orf_n, orf_rf, rf_null, mA_pm, mL_pm, mP_pm, List.length_cons, List.length_nil, List.cons_append, List.nil_append, Nat.reduceAdd, Nat.reduceLeDiff, Nat.reduceLT, Nat.reduceEqDiff, Nat.zero_add, Nat.add_zero, Nat.le_refl, Nat.zero_le, true_and, and_true, true_or, or_true, false_or, or_false, reduceIte, ha, a1]
        refine ⟨fun q2 => kskip (fun z => bi_e0 q2 z.2.1), fun q2 => ?_⟩
        refine sp_free17 hc hd hT2 hT hG hn ?_
        simp only [o_il, o_al, o_gf, o_alen, o_ic2, o_aald, o_as, o_ifn, o_if, nth_2, nth_0, lset_3, nth_3, nth_1, opV_0, opV_1, mV_6_2, al_6, hc.p6_2, kd_98, ix_98, hc.l98, hc.a6, ix_6, mV_1_7, al_1, cI_1, ix_1, mV_1_1, mV_1_2, cats_nil, cats_cons, rf_s, rf_n, isR_r, isR_n, isR_rf, cat_i, cat_l, cat_r, cat_n, cat_rf, unl_i, unl_l, unl_r, unl_n, unl_j, unl_rf, orf_r, orf_n, orf_rf, rf_null, mA_pm, mL_pm, mP_pm, List.length_cons, List.length_nil, List.cons_append, List.nil_append, Nat.reduceAdd, Nat.reduceLeDiff, Nat.reduceLT, Nat.reduceEqDiff, Nat.zero_add, Nat.add_zero, Nat.le_refl, Nat.zero_le, true_and, and_true, true_or, or_true, false_or, or_false, reduceIte, ha, a1]
        refine ⟨fun q3 => kskip (fun z => bi_e0 q3 z.2.2), fun q3 => ?_⟩
        have hs : scrP M i := ⟨q1, bi_ne0 q2, bi_ne0 q3⟩
        rcases h with ⟨rfl, h⟩ | ⟨f, rfl, h⟩
        · simp only [isR_n, true_and]
          exact ⟨fun _ => knew hs (fun j hj z => absurd z (h j hj)), fun z => absurd trivial z⟩
        · have hf : f < nA := by have := h.1; omega
          have haf := hd.2.2.2.2.2 f hf
          have af := (hA f hf).2.2.1
          simp only [isR_r, true_and, rnn, false_imp_iff, not_false_eq_true, true_imp_iff, al_1, haf, ha, mV_1_2, ix_1, cI_1, a2, af, mA_pm]
          refine ⟨fun q4 => ?_, fun q4 => knew hs (fun j hj z => ?_)⟩
          · refine k66 _ _ trivial (Or.inr ⟨f, rfl, by have := h.1; omega, h.2.1, nx h.2.2 (fun _ => ?_)⟩)
            rcases lt_or_eq32 (Int32.not_lt.mpr q4) with z | z
            · exact Or.inl z
            · exact Or.inr ⟨z, by have := h.1; omega⟩
          · rcases h.2.2 j hj z with y | ⟨y, -⟩
            · exact Int32.lt_trans (Int32.not_le.mp q4) y
            · rw [← y]; exact Int32.not_le.mp q4
      · rw [show min i nA = nA by omega] at h
        rw [show min (i + 1) nA = nA by omega] at k66
        simp only [B_X6_scrubTape_4, o_il, o_al, o_gf, o_alen, o_ic2, o_aald, o_as, o_ifn, o_if, nth_2, nth_0, lset_3, nth_3, nth_1, opV_0, opV_1, mV_6_2, al_6, hc.p6_2, kd_98, ix_98, hc.l98, hc.a6, ix_6, mV_1_7, al_1, cI_1, ix_1, mV_1_1, mV_1_2, cats_nil, cats_cons, rf_s, rf_n, isR_r, isR_n, isR_rf, cat_i, cat_l, cat_r, cat_n, cat_rf, unl_i, unl_l, unl_r, unl_n, unl_j, unl_rf, orf_r, orf_n, orf_rf, rf_null, mA_pm, mL_pm, mP_pm, List.length_cons, List.length_nil, List.cons_append, List.nil_append, Nat.reduceAdd, Nat.reduceLeDiff, Nat.reduceLT, Nat.reduceEqDiff, Nat.zero_add, Nat.add_zero, Nat.le_refl, Nat.zero_le, true_and, and_true, true_or, or_true, false_or, or_false, reduceIte, ofN, vin hi150, ncl hi150, hd.2.2.1 i hi150, if_neg hn]
        refine ⟨fun z => absurd z (by rw [nI_le_iff]; omega), fun _ => ⟨fun _ => ?_, fun z => by first | exact absurd rfl z | exact absurd trivial z⟩⟩
        rcases h with ⟨rfl, h⟩ | ⟨f, rfl, h⟩
        · exact k66 _ _ trivial (Or.inl ⟨rfl, h⟩)
        · exact k66 _ _ trivial (Or.inr ⟨f, rfl, h⟩)
  apply h0
  simp only [B_X6_scrubTape_0, o_null, o_as, o_ic, o_is, lset_1, lset_2, cats_nil, cats_cons, rf_s, rf_n, isR_r, isR_n, isR_rf, cat_i, cat_l, cat_r, cat_n, cat_rf, unl_i, unl_l, unl_r, unl_n, unl_j, unl_rf, orf_r, orf_n, orf_rf, rf_null, mA_pm, mL_pm, mP_pm, List.length_cons, List.length_nil, List.cons_append, List.nil_append, Nat.reduceAdd, Nat.reduceLeDiff, Nat.reduceLT, Nat.reduceEqDiff, Nat.zero_add, Nat.add_zero, Nat.le_refl, Nat.zero_le, true_and, and_true, true_or, or_true, false_or, or_false, reduceIte]
  exact loop 150 0 _ _ (by omega) (Or.inl ⟨rfl, fun t ht => by omega⟩)
end ZC18
