/-! The model: tick -/
section ZM14
variable {l : Launch} {D : DD} {d : Nat} {c : HP} {M : MD} {Q : List Value → HP → Prop}
theorem sp_tick (hs : SKM c) {nT nR nA : Nat} {I : MD → Prop} (hI : TI nT nR nA I) (hq : I M) (hT2 : nT ≤ 12) (hR2 : nR ≤ 3) (hA2 : nA ≤ 150) (x : Int32) (H : ∀ r M', ((∃ n M1, 1 ≤ n ∧ n ≤ 400 ∧ x = nI n ∧ Tn nR nA M n r M1 ∧ SC M1 M') ∨ (¬ (1 ≤ x ∧ x ≤ 400) ∧ r = -1 ∧ SC M M')) → Q [.int r] (pm c M')) : K_X7_tick l D (d + 15) [.ref (ob 7 0), .int x] (pm c M) Q := by
  refine m_X7_tick (lsA := [.ref (ob 7 0), .int x, jk, jk, jk]) rfl (Nat.le_of_ble_eq_true rfl) ?_
  intro X h0 h18 h22 h30 h53 h59 h62 h91 h97 h100 h123 h129 h145
  have hsc : SC M (uI M 7 0 0) := (SC.rf M).w 0 rfl
  apply h0
  simp only [B_X7_tick_0, o_al, o_ic, o_pI, o_il, o_if, o_iret, nth_0, nth_1, opS_3, al_7, ix_7, hs.a7, wm_7, wmJ_7, cats_nil, cats_cons, rf_s, rf_n, isR_r, isR_n, isR_rf, cat_i, cat_l, cat_r, cat_n, cat_rf, unl_i, unl_l, unl_r, unl_n, unl_j, unl_rf, orf_r, orf_n, orf_rf, rf_null, mA_pm, mL_pm, mP_pm, List.length_cons, List.length_nil, List.cons_append, List.nil_append, Nat.reduceAdd, Nat.reduceLeDiff, Nat.reduceLT, Nat.reduceEqDiff, Nat.zero_add, Nat.add_zero, Nat.le_refl, Nat.zero_le, true_and, and_true, true_or, or_true, false_or, or_false, reduceIte]
  refine sp_within _ _ _ _ ?_
  simp only [o_al, o_ic, o_pI, o_il, o_if, o_iret, nth_0, nth_1, opS_3, al_7, ix_7, hs.a7, wm_7, wmJ_7, cats_nil, cats_cons, rf_s, rf_n, isR_r, isR_n, isR_rf, cat_i, cat_l, cat_r, cat_n, cat_rf, unl_i, unl_l, unl_r, unl_n, unl_j, unl_rf, orf_r, orf_n, orf_rf, rf_null, mA_pm, mL_pm, mP_pm, List.length_cons, List.length_nil, List.cons_append, List.nil_append, Nat.reduceAdd, Nat.reduceLeDiff, Nat.reduceLT, Nat.reduceEqDiff, Nat.zero_add, Nat.add_zero, Nat.le_refl, Nat.zero_le, true_and, and_true, true_or, or_true, false_or, or_false, reduceIte]
  refine ⟨fun q => H (-1) _ (Or.inr ⟨bi_e0 q, rfl, hsc⟩), fun q => ?_⟩
  have q' : 1 ≤ x ∧ x ≤ 400 := bi_ne0 q
  obtain ⟨n, hn, rfl⟩ : ∃ n, n < 401 ∧ x = nI n := in_nI (by omega) ⟨Int32.le_trans (by decide) q'.1, by rw [show nI 401 - 1 = 400 by decide]; exact q'.2⟩
  have hn1 : 1 ≤ n := by
    have := q'.1
    rw [show (1 : Int32) = nI 1 from rfl, nI_le_iff] at this
    exact this
  have moves : ∀ k e i M2 M2', k < 2 → I M2 → SC M2 M2' → (∀ M3, SC (mvM M2 nA k) M3 → X 30 [.ref (ob 7 0), .int (nI n), .int e, .int (nI i), .int (nI (k + 1))] [] (pm c M3) 0 0) → X 30 [.ref (ob 7 0), .int (nI n), .int e, .int (nI i), .int (nI k)] [] (pm c M2') 0 0 := by
    intro k e i M2 M2' hk hi hS K
    obtain ⟨f1, f2, f3, f4, f5, f6, f7, f8⟩ := hI.1 M2 hi
    have k53 : ∀ M3, SC (mvM M2 nA k) M3 → X 53 [.ref (ob 7 0), .int (nI n), .int e, .int (nI i), .int (nI k)] [] (pm c M3) 0 0 := by
      intro M3 g
      apply h53
      simp only [B_X7_tick_53, o_inc, nth_4, lset_4, cats_nil, cats_cons, rf_s, rf_n, isR_r, isR_n, isR_rf, cat_i, cat_l, cat_r, cat_n, cat_rf, unl_i, unl_l, unl_r, unl_n, unl_j, unl_rf, orf_r, orf_n, orf_rf, rf_null, mA_pm, mL_pm, mP_pm, List.length_cons, List.length_nil, List.cons_append, List.nil_append, Nat.reduceAdd, Nat.reduceLeDiff, Nat.reduceLT, Nat.reduceEqDiff, Nat.zero_add, Nat.add_zero, Nat.le_refl, Nat.zero_le, true_and, and_true, true_or, or_true, false_or, or_false, reduceIte, nI_1]
      exact K M3 g
    apply h30
    simp only [B_X7_tick_30, o_il, o_ic, o_ic2, o_al, o_gf, o_iald, nth_4, nth_0, opV_1, mV_7_35, al_7, hs.a7, hs.p35, kd_43, ix_43, hs.l43, rm_43, wm_43, ix_7, cats_nil, cats_cons, rf_s, rf_n, isR_r, isR_n, isR_rf, cat_i, cat_l, cat_r, cat_n, cat_rf, unl_i, unl_l, unl_r, unl_n, unl_j, unl_rf, orf_r, orf_n, orf_rf, rf_null, mA_pm, mL_pm, mP_pm, List.length_cons, List.length_nil, List.cons_append, List.nil_append, Nat.reduceAdd, Nat.reduceLeDiff, Nat.reduceLT, Nat.reduceEqDiff, Nat.zero_add, Nat.add_zero, Nat.le_refl, Nat.zero_le, true_and, and_true, true_or, or_true, false_or, or_false, reduceIte, vin hk, ncl hk, hS.r43]
    refine ⟨fun z => absurd z (by rw [show (2 : Int32) = nI 2 from rfl, nI_le_iff]; omega), fun _ => ⟨fun z => k53 M2' ?_, fun z => ?_⟩⟩
    · unfold mvM
      rw [if_pos z]
      exact hS
    · rcases f7 k hk with y | ⟨y1, y2, y3, y4⟩
      · exact absurd y z
      · refine sp_moves (t := (M2.1 43 k).toNatClampNeg) (r := (M2.1 46 k).toNatClampNeg) (nT := nT) (nA := nA) hs (by rw [hS.s8]; exact f2) hA2 hT2 hk y1 (by omega) (by rw [hS.r43]; exact y2) (by rw [hS.r46]; exact y4) (GA_sc hS f3) (GH_sc hS f4) (fun M3 g => ?_)
        simp only [o_il, o_ic, o_ic2, o_al, o_gf, o_iald, nth_4, nth_0, opV_1, mV_7_35, al_7, hs.a7, hs.p35, kd_43, ix_43, hs.l43, rm_43, wm_43, ix_7, cats_nil, cats_cons, rf_s, rf_n, isR_r, isR_n, isR_rf, cat_i, cat_l, cat_r, cat_n, cat_rf, unl_i, unl_l, unl_r, unl_n, unl_j, unl_rf, orf_r, orf_n, orf_rf, rf_null, mA_pm, mL_pm, mP_pm, List.length_cons, List.length_nil, List.cons_append, List.nil_append, Nat.reduceAdd, Nat.reduceLeDiff, Nat.reduceLT, Nat.reduceEqDiff, Nat.zero_add, Nat.add_zero, Nat.le_refl, Nat.zero_le, true_and, and_true, true_or, or_true, false_or, or_false, reduceIte]
        refine k53 M3 ?_
        unfold mvM
        rw [if_neg z]
        exact (movesM_sc hS _ _ _ _).tr g
  have asks : ∀ k e i M2 M2', k < 2 → I M2 → SC M2 M2' → (∀ M3 M3', ajR M2 k nR nA M3 → SC M3 M3' → X 100 [.ref (ob 7 0), .int (nI n), .int e, .int (nI i), .int (nI (k + 1))] [] (pm c M3') 0 0) → X 100 [.ref (ob 7 0), .int (nI n), .int e, .int (nI i), .int (nI k)] [] (pm c M2') 0 0 := by
    intro k e i M2 M2' hk hi hS K
    obtain ⟨f1, f2, f3, f4, f5, f6, f7, f8⟩ := hI.1 M2 hi
    have k123 : ∀ M3 M3', ajR M2 k nR nA M3 → SC M3 M3' → X 123 [.ref (ob 7 0), .int (nI n), .int e, .int (nI i), .int (nI k)] [] (pm c M3') 0 0 := by
      intro M3 M3' g1 g2
      apply h123
      simp only [B_X7_tick_123, o_inc, nth_4, lset_4, cats_nil, cats_cons, rf_s, rf_n, isR_r, isR_n, isR_rf, cat_i, cat_l, cat_r, cat_n, cat_rf, unl_i, unl_l, unl_r, unl_n, unl_j, unl_rf, orf_r, orf_n, orf_rf, rf_null, mA_pm, mL_pm, mP_pm, List.length_cons, List.length_nil, List.cons_append, List.nil_append, Nat.reduceAdd, Nat.reduceLeDiff, Nat.reduceLT, Nat.reduceEqDiff, Nat.zero_add, Nat.add_zero, Nat.le_refl, Nat.zero_le, true_and, and_true, true_or, or_true, false_or, or_false, reduceIte, nI_1]
      exact K M3 M3' g1 g2
    apply h100
    simp only [B_X7_tick_100, o_il, o_ic, o_ic2, o_al, o_gf, o_iald, nth_4, nth_0, opV_1, mV_7_35, al_7, hs.a7, hs.p35, kd_43, ix_43, hs.l43, rm_43, wm_43, ix_7, cats_nil, cats_cons, rf_s, rf_n, isR_r, isR_n, isR_rf, cat_i, cat_l, cat_r, cat_n, cat_rf, unl_i, unl_l, unl_r, unl_n, unl_j, unl_rf, orf_r, orf_n, orf_rf, rf_null, mA_pm, mL_pm, mP_pm, List.length_cons, List.length_nil, List.cons_append, List.nil_append, Nat.reduceAdd, Nat.reduceLeDiff, Nat.reduceLT, Nat.reduceEqDiff, Nat.zero_add, Nat.add_zero, Nat.le_refl, Nat.zero_le, true_and, and_true, true_or, or_true, false_or, or_false, reduceIte, vin hk, ncl hk, hS.r43]
    refine ⟨fun z => absurd z (by rw [show (2 : Int32) = nI 2 from rfl, nI_le_iff]; omega), fun _ => ⟨fun z => ?_, fun z => k123 M2 M2' (Or.inr ⟨z, rfl⟩) hS⟩⟩
    refine sp_asksForJob (nR := nR) (nT := nT) (nA := nA) hs (by rw [hS.s26]; exact f1) hR2 (by rw [hS.s8]; exact f2) hA2 hT2 hk (GA_sc hS f3) (GR_sc hS f6) (fun M3 g => ?_)
    simp only [o_il, o_ic, o_ic2, o_al, o_gf, o_iald, nth_4, nth_0, opV_1, mV_7_35, al_7, hs.a7, hs.p35, kd_43, ix_43, hs.l43, rm_43, wm_43, ix_7, cats_nil, cats_cons, rf_s, rf_n, isR_r, isR_n, isR_rf, cat_i, cat_l, cat_r, cat_n, cat_rf, unl_i, unl_l, unl_r, unl_n, unl_j, unl_rf, orf_r, orf_n, orf_rf, rf_null, mA_pm, mL_pm, mP_pm, List.length_cons, List.length_nil, List.cons_append, List.nil_append, Nat.reduceAdd, Nat.reduceLeDiff, Nat.reduceLT, Nat.reduceEqDiff, Nat.zero_add, Nat.add_zero, Nat.le_refl, Nat.zero_le, true_and, and_true, true_or, or_true, false_or, or_false, reduceIte]
    obtain ⟨N0, n1, n2⟩ := AjR_sc hS g
    exact k123 N0 M3 (Or.inl ⟨z, n1⟩) n2
  have works : ∀ m j e i A M2', j + m = nR → I A → SC (wksM A j) M2' → (∀ M3, SC (wksM A nR) M3 → X 97 [.ref (ob 7 0), .int (nI n), .int (e + wksE A nR), .int (nI i), .int (nI nR)] [] (pm c M3) 0 0) → X 62 [.ref (ob 7 0), .int (nI n), .int (e + wksE A j), .int (nI i), .int (nI j)] [] (pm c M2') 0 0 := by
    intro m
    induction m with
    | zero =>
      intro j e i A M2' hj hi hS K
      obtain rfl : j = nR := by omega
      obtain ⟨f1, -⟩ := hI.1 _ (TI_ks hI hi j (by omega))
      apply h62
      simp only [B_X7_tick_62, o_il, o_al, o_gf, o_ic2, o_iald, o_ic, o_ii, o_is, nth_4, nth_0, nth_2, lset_2, opV_1, mV_7_26, al_7, hs.a7, rm_7, ix_7, mV_7_28, hs.p28, kd_36, ix_36, hs.l36, rm_36, wm_36, cats_nil, cats_cons, rf_s, rf_n, isR_r, isR_n, isR_rf, cat_i, cat_l, cat_r, cat_n, cat_rf, unl_i, unl_l, unl_r, unl_n, unl_j, unl_rf, orf_r, orf_n, orf_rf, rf_null, mA_pm, mL_pm, mP_pm, List.length_cons, List.length_nil, List.cons_append, List.nil_append, Nat.reduceAdd, Nat.reduceLeDiff, Nat.reduceLT, Nat.reduceEqDiff, Nat.zero_add, Nat.add_zero, Nat.le_refl, Nat.zero_le, true_and, and_true, true_or, or_true, false_or, or_false, reduceIte, show M2'.1 7 26 = nI j by rw [hS.s26]; exact f1]
      exact ⟨fun _ => K M2' hS, fun z => absurd (nI_le (by omega) (by omega)) z⟩
    | succ m ih =>
      intro j e i A M2' hj hi hS K
      have hj3 : j < 3 := by omega
      have hjr : j < nR := by omega
      obtain ⟨f1, f2, f3, f4, f5, f6, f7, f8⟩ := hI.1 _ (TI_ks hI hi j (by omega))
      have k91 : ∀ M3, SC (wksM A (j + 1)) M3 → X 91 [.ref (ob 7 0), .int (nI n), .int (e + wksE A (j + 1)), .int (nI i), .int (nI j)] [] (pm c M3) 0 0 := by
        intro M3 g
        apply h91
        simp only [B_X7_tick_91, o_inc, nth_4, lset_4, cats_nil, cats_cons, rf_s, rf_n, isR_r, isR_n, isR_rf, cat_i, cat_l, cat_r, cat_n, cat_rf, unl_i, unl_l, unl_r, unl_n, unl_j, unl_rf, orf_r, orf_n, orf_rf, rf_null, mA_pm, mL_pm, mP_pm, List.length_cons, List.length_nil, List.cons_append, List.nil_append, Nat.reduceAdd, Nat.reduceLeDiff, Nat.reduceLT, Nat.reduceEqDiff, Nat.zero_add, Nat.add_zero, Nat.le_refl, Nat.zero_le, true_and, and_true, true_or, or_true, false_or, or_false, reduceIte, nI_1]
        exact ih (j + 1) e i A M3 (by omega) hi g K
      apply h62
      simp only [B_X7_tick_62, o_il, o_al, o_gf, o_ic2, o_iald, o_ic, o_ii, o_is, nth_4, nth_0, nth_2, lset_2, opV_1, mV_7_26, al_7, hs.a7, rm_7, ix_7, mV_7_28, hs.p28, kd_36, ix_36, hs.l36, rm_36, wm_36, cats_nil, cats_cons, rf_s, rf_n, isR_r, isR_n, isR_rf, cat_i, cat_l, cat_r, cat_n, cat_rf, unl_i, unl_l, unl_r, unl_n, unl_j, unl_rf, orf_r, orf_n, orf_rf, rf_null, mA_pm, mL_pm, mP_pm, List.length_cons, List.length_nil, List.cons_append, List.nil_append, Nat.reduceAdd, Nat.reduceLeDiff, Nat.reduceLT, Nat.reduceEqDiff, Nat.zero_add, Nat.add_zero, Nat.le_refl, Nat.zero_le, true_and, and_true, true_or, or_true, false_or, or_false, reduceIte, show M2'.1 7 26 = nI nR by rw [hS.s26]; exact f1, vin hj3, ncl hj3, hS.r36]
      refine ⟨fun z => absurd z (by rw [nI_le_iff]; omega), fun _ => ⟨fun z => ?_, fun z => ?_⟩⟩
      · obtain ⟨t1, t2, t3⟩ := f8 j hjr z
        refine sp_works (nR := nR) (nT := nT) (nA := nA) (t := rtN (wksM A j) j) hs hR2 hA2 hT2 (GW_sc hS f5) (GA_sc hS f3) hjr t2 (by rw [hS.r37]; exact t1) (by rw [wkN_sc hS, wkL_sc hS, hS.r26]; exact t3) (fun r M3 g => ?_)
        rw [wkN_sc hS, wkL_sc hS, costW_sc hS, hS.r40] at g
        simp only [o_il, o_al, o_gf, o_ic2, o_iald, o_ic, o_ii, o_is, nth_4, nth_0, nth_2, lset_2, opV_1, mV_7_26, al_7, hs.a7, rm_7, ix_7, mV_7_28, hs.p28, kd_36, ix_36, hs.l36, rm_36, wm_36, cats_nil, cats_cons, rf_s, rf_n, isR_r, isR_n, isR_rf, cat_i, cat_l, cat_r, cat_n, cat_rf, unl_i, unl_l, unl_r, unl_n, unl_j, unl_rf, orf_r, orf_n, orf_rf, rf_null, mA_pm, mL_pm, mP_pm, List.length_cons, List.length_nil, List.cons_append, List.nil_append, Nat.reduceAdd, Nat.reduceLeDiff, Nat.reduceLT, Nat.reduceEqDiff, Nat.zero_add, Nat.add_zero, Nat.le_refl, Nat.zero_le, true_and, and_true, true_or, or_true, false_or, or_false, reduceIte]
        have e1 : wksE A (j + 1) = wksE A j + wkE (wksM A j) j := rfl
        have e2 : wksM A (j + 1) = wkM (wksM A j) j := rfl
        have e3 : r = wkE (wksM A j) j ∧ SC (wkM (wksM A j) j) M3 := by
          unfold wkE wkM
          rw [if_pos z, if_pos z]
          rcases g with ⟨g1, g2, g3⟩ | ⟨g1, g2, g3, g4⟩ | ⟨g1, g2, g3, g4⟩
          · rw [if_pos g1, if_pos g1]
            exact ⟨g2, (hS.u 36 j 3).tr g3⟩
          · have g0 : ¬ wkN (wksM A j) j = 0 := by omega
            rw [if_neg g0, if_neg g0, if_neg g2, if_neg g2]
            exact ⟨g3, (hS.u 40 j _).tr g4⟩
          · have g0 : ¬ wkN (wksM A j) j = 0 := by omega
            rw [if_neg g0, if_neg g0, if_pos g2, if_pos g2]
            exact ⟨g3, (endM_sc hS _ _ _ _).tr g4⟩
        rw [e3.1, Int32.add_assoc, ← e1]
        exact k91 M3 e3.2
      · have e1 : wksE A (j + 1) = wksE A j := by
          show wksE A j + wkE (wksM A j) j = _
          unfold wkE
          rw [if_neg z, Int32.add_zero]
        rw [← e1]
        refine k91 M2' ?_
        show SC (wkM (wksM A j) j) M2'
        unfold wkM
        rw [if_neg z]
        exact hS
  have loop : ∀ m i e M1 M' w4, i + m = n → Tn nR nA M i e M1 → SC M1 M' → X 22 [.ref (ob 7 0), .int (nI n), .int e, .int (nI i), w4] [] (pm c M') 0 0 := by
    intro m
    induction m with
    | zero =>
      intro i e M1 M' w4 hi ht hS
      obtain rfl : i = n := by omega
      apply h22
      simp only [B_X7_tick_22, o_il, o_ic2, o_ic, o_is, nth_3, nth_1, lset_4, cats_nil, cats_cons, rf_s, rf_n, isR_r, isR_n, isR_rf, cat_i, cat_l, cat_r, cat_n, cat_rf, unl_i, unl_l, unl_r, unl_n, unl_j, unl_rf, orf_r, orf_n, orf_rf, rf_null, mA_pm, mL_pm, mP_pm, List.length_cons, List.length_nil, List.cons_append, List.nil_append, Nat.reduceAdd, Nat.reduceLeDiff, Nat.reduceLT, Nat.reduceEqDiff, Nat.zero_add, Nat.add_zero, Nat.le_refl, Nat.zero_le, true_and, and_true, true_or, or_true, false_or, or_false, reduceIte]
      refine ⟨fun _ => ?_, fun z => absurd (nI_le (by omega) (by omega)) z⟩
      apply h145
      simp only [B_X7_tick_145, o_il, o_iret, nth_2, cats_nil, cats_cons, rf_s, rf_n, isR_r, isR_n, isR_rf, cat_i, cat_l, cat_r, cat_n, cat_rf, unl_i, unl_l, unl_r, unl_n, unl_j, unl_rf, orf_r, orf_n, orf_rf, rf_null, mA_pm, mL_pm, mP_pm, List.length_cons, List.length_nil, List.cons_append, List.nil_append, Nat.reduceAdd, Nat.reduceLeDiff, Nat.reduceLT, Nat.reduceEqDiff, Nat.zero_add, Nat.add_zero, Nat.le_refl, Nat.zero_le, true_and, and_true, true_or, or_true, false_or, or_false, reduceIte]
      exact H e M' (Or.inl ⟨i, M1, hn1, by omega, rfl, ht, hS⟩)
    | succ m ih =>
      intro i e M1 M' w4 hi ht hS
      have hi1 := TI_n hI hq i e M1 ht
      apply h22
      simp only [B_X7_tick_22, o_il, o_ic2, o_ic, o_is, nth_3, nth_1, lset_4, cats_nil, cats_cons, rf_s, rf_n, isR_r, isR_n, isR_rf, cat_i, cat_l, cat_r, cat_n, cat_rf, unl_i, unl_l, unl_r, unl_n, unl_j, unl_rf, orf_r, orf_n, orf_rf, rf_null, mA_pm, mL_pm, mP_pm, List.length_cons, List.length_nil, List.cons_append, List.nil_append, Nat.reduceAdd, Nat.reduceLeDiff, Nat.reduceLT, Nat.reduceEqDiff, Nat.zero_add, Nat.add_zero, Nat.le_refl, Nat.zero_le, true_and, and_true, true_or, or_true, false_or, or_false, reduceIte]
      refine ⟨fun z => absurd z (by rw [nI_le_iff]; omega), fun _ => ?_⟩
      refine moves 0 e i M1 M' (by omega) hi1 hS (fun M2 s2 => ?_)
      have hi2 := hI.2.1 _ 0 (by omega) hi1
      refine moves 1 e i _ M2 (by omega) hi2 s2 (fun M3 s3 => ?_)
      have hi3 := hI.2.1 _ 1 (by omega) hi2
      apply h30
      simp only [B_X7_tick_30, o_il, o_ic, o_ic2, o_al, o_gf, o_iald, nth_4, nth_0, opV_1, mV_7_35, al_7, hs.a7, hs.p35, kd_43, ix_43, hs.l43, rm_43, wm_43, ix_7, cats_nil, cats_cons, rf_s, rf_n, isR_r, isR_n, isR_rf, cat_i, cat_l, cat_r, cat_n, cat_rf, unl_i, unl_l, unl_r, unl_n, unl_j, unl_rf, orf_r, orf_n, orf_rf, rf_null, mA_pm, mL_pm, mP_pm, List.length_cons, List.length_nil, List.cons_append, List.nil_append, Nat.reduceAdd, Nat.reduceLeDiff, Nat.reduceLT, Nat.reduceEqDiff, Nat.zero_add, Nat.add_zero, Nat.le_refl, Nat.zero_le, true_and, and_true, true_or, or_true, false_or, or_false, reduceIte]
      refine ⟨fun _ => ?_, fun z => absurd (by decide) z⟩
      apply h59
      simp only [B_X7_tick_59, o_ic, o_is, lset_4, cats_nil, cats_cons, rf_s, rf_n, isR_r, isR_n, isR_rf, cat_i, cat_l, cat_r, cat_n, cat_rf, unl_i, unl_l, unl_r, unl_n, unl_j, unl_rf, orf_r, orf_n, orf_rf, rf_null, mA_pm, mL_pm, mP_pm, List.length_cons, List.length_nil, List.cons_append, List.nil_append, Nat.reduceAdd, Nat.reduceLeDiff, Nat.reduceLT, Nat.reduceEqDiff, Nat.zero_add, Nat.add_zero, Nat.le_refl, Nat.zero_le, true_and, and_true, true_or, or_true, false_or, or_false, reduceIte]
      have w := works nR 0 e i _ M3 (by omega) hi3 s3 (fun M4 s4 => ?_)
      · rw [show e + wksE (mvM (mvM M1 nA 0) nA 1) 0 = e from Int32.add_zero e] at w
        exact w
      · have hi4 := TI_ks hI hi3 nR (Nat.le_refl _)
        apply h97
        simp only [B_X7_tick_97, o_ic, o_is, lset_4, cats_nil, cats_cons, rf_s, rf_n, isR_r, isR_n, isR_rf, cat_i, cat_l, cat_r, cat_n, cat_rf, unl_i, unl_l, unl_r, unl_n, unl_j, unl_rf, orf_r, orf_n, orf_rf, rf_null, mA_pm, mL_pm, mP_pm, List.length_cons, List.length_nil, List.cons_append, List.nil_append, Nat.reduceAdd, Nat.reduceLeDiff, Nat.reduceLT, Nat.reduceEqDiff, Nat.zero_add, Nat.add_zero, Nat.le_refl, Nat.zero_le, true_and, and_true, true_or, or_true, false_or, or_false, reduceIte]
        refine asks 0 _ i _ M4 (by omega) hi4 s4 (fun B M5 b5 s5 => ?_)
        have hi5 := hI.2.2.2.1 _ 0 B (by omega) hi4 b5
        refine asks 1 _ i _ M5 (by omega) hi5 s5 (fun C M6 b6 s6 => ?_)
        apply h100
        simp only [B_X7_tick_100, o_il, o_ic, o_ic2, o_al, o_gf, o_iald, nth_4, nth_0, opV_1, mV_7_35, al_7, hs.a7, hs.p35, kd_43, ix_43, hs.l43, rm_43, wm_43, ix_7, cats_nil, cats_cons, rf_s, rf_n, isR_r, isR_n, isR_rf, cat_i, cat_l, cat_r, cat_n, cat_rf, unl_i, unl_l, unl_r, unl_n, unl_j, unl_rf, orf_r, orf_n, orf_rf, rf_null, mA_pm, mL_pm, mP_pm, List.length_cons, List.length_nil, List.cons_append, List.nil_append, Nat.reduceAdd, Nat.reduceLeDiff, Nat.reduceLT, Nat.reduceEqDiff, Nat.zero_add, Nat.add_zero, Nat.le_refl, Nat.zero_le, true_and, and_true, true_or, or_true, false_or, or_false, reduceIte]
        refine ⟨fun _ => ?_, fun z => absurd (by decide) z⟩
        apply h129
        simp only [B_X7_tick_129, o_al, o_dup, o_gf, o_ic, o_ii, o_pI, o_inc, nth_0, nth_3, lset_3, mV_7_9, al_7, hs.a7, rm_7, ix_7, wm_7, wmJ_7, cats_nil, cats_cons, rf_s, rf_n, isR_r, isR_n, isR_rf, cat_i, cat_l, cat_r, cat_n, cat_rf, unl_i, unl_l, unl_r, unl_n, unl_j, unl_rf, orf_r, orf_n, orf_rf, rf_null, mA_pm, mL_pm, mP_pm, List.length_cons, List.length_nil, List.cons_append, List.nil_append, Nat.reduceAdd, Nat.reduceLeDiff, Nat.reduceLT, Nat.reduceEqDiff, Nat.zero_add, Nat.add_zero, Nat.le_refl, Nat.zero_le, true_and, and_true, true_or, or_true, false_or, or_false, reduceIte, nI_1, s6.s9]
        exact ih (i + 1) _ _ _ _ (by omega) ⟨e, _, M1, ht, ⟨rfl, B, b5, C, b6, rfl⟩, rfl⟩ (s6.u 7 9 _)
  apply h18
  simp only [B_X7_tick_18, o_ic, o_is, lset_2, lset_3, cats_nil, cats_cons, rf_s, rf_n, isR_r, isR_n, isR_rf, cat_i, cat_l, cat_r, cat_n, cat_rf, unl_i, unl_l, unl_r, unl_n, unl_j, unl_rf, orf_r, orf_n, orf_rf, rf_null, mA_pm, mL_pm, mP_pm, List.length_cons, List.length_nil, List.cons_append, List.nil_append, Nat.reduceAdd, Nat.reduceLeDiff, Nat.reduceLT, Nat.reduceEqDiff, Nat.zero_add, Nat.add_zero, Nat.le_refl, Nat.zero_le, true_and, and_true, true_or, or_true, false_or, or_false, reduceIte]
  exact loop n 0 0 M _ _ (by omega) ⟨rfl, rfl⟩ hsc
end ZM14
