/-! The model takes in tapes, readers, asks -/
section ZM4
variable {l : Launch} {D : DD} {d : Nat} {c : HP} {M : MD} {Q : List Value → HP → Prop}
def tapeBad (M : MD) (nT : Nat) (s k n : Int32) : Prop := ¬ (0 ≤ s ∧ s ≤ 39) ∨ ¬ (0 ≤ k ∧ k ≤ 4) ∨ (∃ t, t < nT ∧ M.1 20 t = s) ∨ 60 < n ∨ n = 0 ∨ nT = 12
def tapeM (M : MD) (nT : Nat) (s k n : Int32) : MD := uI (uI (uI (uI M 20 nT s) 21 nT k) 22 nT n) 7 1 (nI (nT + 1))
theorem sp_tape (hs : SKM c) {nT : Nat} (hT : M.1 7 1 = nI nT) (hT2 : nT ≤ 12) (s k n : Int32) (H : ∀ r M', (tapeBad M nT s k n ∧ r = -1 ∧ SC M M') ∨ (¬ tapeBad M nT s k n ∧ n < 0 ∧ r = -2 ∧ SC M M') ∨ (¬ tapeBad M nT s k n ∧ ¬ n < 0 ∧ r = nI nT ∧ SC (tapeM M nT s k n) M') → Q [.int r] (pm c M')) : K_X7_tape l D (d + 2) [.ref (ob 7 0), .int s, .int k, .int n] (pm c M) Q := by
  refine m_X7_tape (lsA := [.ref (ob 7 0), .int s, .int k, .int n, jk, jk]) rfl (Nat.le_of_ble_eq_true rfl) ?_
  intro X h0 h11 h36 h40 h41 h49 h92 h94 h101
  have hsc : SC M (uI M 7 0 0) := (SC.rf M).w 0 rfl
  have k92 : ∀ ls, tapeBad M nT s k n → X 92 ls [] (pm c (uI M 7 0 0)) 0 0 := by
    intro ls q
    apply h92
    simp only [B_X7_tape_92, o_ic, o_iret, cats_nil, cats_cons, rf_s, rf_n, isR_r, isR_n, isR_rf, cat_i, cat_l, cat_r, cat_n, cat_rf, unl_i, unl_l, unl_r, unl_n, unl_j, unl_rf, orf_r, orf_n, orf_rf, rf_null, mA_pm, mL_pm, mP_pm, List.length_cons, List.length_nil, List.cons_append, List.nil_append, Nat.reduceAdd, Nat.reduceLeDiff, Nat.reduceLT, Nat.reduceEqDiff, Nat.zero_add, Nat.add_zero, Nat.le_refl, Nat.zero_le, true_and, and_true, true_or, or_true, false_or, or_false, reduceIte]
    exact H _ _ (Or.inl ⟨q, rfl, hsc⟩)
  have k49 : ∀ u v, (u = 0 ∧ ∀ t, t < nT → ¬ M.1 20 t = s) ∨ (u = 1 ∧ ∃ t, t < nT ∧ M.1 20 t = s) → X 49 [.ref (ob 7 0), .int s, .int k, .int n, .int u, v] [] (pm c (uI M 7 0 0)) 0 0 := by
    intro u v hu
    apply h49
    simp only [B_X7_tape_49, o_il, o_ic, o_if, o_ic2, o_al, o_gf, nth_1, nth_2, nth_4, nth_3, nth_0, opS_3, mV_7_1, al_7, hs.a7, rm_7, ix_7, cats_nil, cats_cons, rf_s, rf_n, isR_r, isR_n, isR_rf, cat_i, cat_l, cat_r, cat_n, cat_rf, unl_i, unl_l, unl_r, unl_n, unl_j, unl_rf, orf_r, orf_n, orf_rf, rf_null, mA_pm, mL_pm, mP_pm, List.length_cons, List.length_nil, List.cons_append, List.nil_append, Nat.reduceAdd, Nat.reduceLeDiff, Nat.reduceLT, Nat.reduceEqDiff, Nat.zero_add, Nat.add_zero, Nat.le_refl, Nat.zero_le, true_and, and_true, true_or, or_true, false_or, or_false, reduceIte]
    refine sp_within _ _ _ _ ?_
    simp only [o_il, o_ic, o_if, o_ic2, o_al, o_gf, nth_1, nth_2, nth_4, nth_3, nth_0, opS_3, mV_7_1, al_7, hs.a7, rm_7, ix_7, cats_nil, cats_cons, rf_s, rf_n, isR_r, isR_n, isR_rf, cat_i, cat_l, cat_r, cat_n, cat_rf, unl_i, unl_l, unl_r, unl_n, unl_j, unl_rf, orf_r, orf_n, orf_rf, rf_null, mA_pm, mL_pm, mP_pm, List.length_cons, List.length_nil, List.cons_append, List.nil_append, Nat.reduceAdd, Nat.reduceLeDiff, Nat.reduceLT, Nat.reduceEqDiff, Nat.zero_add, Nat.add_zero, Nat.le_refl, Nat.zero_le, true_and, and_true, true_or, or_true, false_or, or_false, reduceIte]
    refine ⟨fun q => k92 _ (Or.inl (bi_e0 q)), fun q => ?_⟩
    refine sp_within _ _ _ _ ?_
    simp only [o_il, o_ic, o_if, o_ic2, o_al, o_gf, nth_1, nth_2, nth_4, nth_3, nth_0, opS_3, mV_7_1, al_7, hs.a7, rm_7, ix_7, cats_nil, cats_cons, rf_s, rf_n, isR_r, isR_n, isR_rf, cat_i, cat_l, cat_r, cat_n, cat_rf, unl_i, unl_l, unl_r, unl_n, unl_j, unl_rf, orf_r, orf_n, orf_rf, rf_null, mA_pm, mL_pm, mP_pm, List.length_cons, List.length_nil, List.cons_append, List.nil_append, Nat.reduceAdd, Nat.reduceLeDiff, Nat.reduceLT, Nat.reduceEqDiff, Nat.zero_add, Nat.add_zero, Nat.le_refl, Nat.zero_le, true_and, and_true, true_or, or_true, false_or, or_false, reduceIte, uI_1, hT, Nat.reduceEqDiff, and_false]
    refine ⟨fun q2 => k92 _ (Or.inr (Or.inl (bi_e0 q2))), fun q2 => ⟨fun q3 => ⟨fun q4 => k92 _ (Or.inr (Or.inr (Or.inr (Or.inl q4)))), fun q4 => ⟨fun q5 => k92 _ (Or.inr (Or.inr (Or.inr (Or.inr (Or.inl q5))))), fun q5 => ⟨fun q6 => k92 _ (Or.inr (Or.inr (Or.inr (Or.inr (Or.inr ?_))))), fun q6 => ?_⟩⟩⟩, fun q3 => k92 _ ?_⟩⟩
    · rw [show (12 : Int32) = nI 12 from rfl, nI_eq_iff] at q6
      exact q6
    · have hb : ¬ tapeBad M nT s k n := by
        rintro (z | z | ⟨t, z1, z2⟩ | z | z | z)
        · exact z (bi_ne0 q)
        · exact z (bi_ne0 q2)
        · rcases hu with ⟨-, hu⟩ | ⟨hu, -⟩
          · exact hu t z1 z2
          · rw [hu] at q3
            exact absurd q3 (by decide)
        · exact q4 z
        · exact q5 z
        · exact q6 (by rw [z]; rfl)
      have hT12 : nT < 12 := by
        rcases Nat.lt_or_ge nT 12 with z | z
        · exact z
        · exact absurd (Or.inr (Or.inr (Or.inr (Or.inr (Or.inr (by omega)))))) hb
      apply h94
      simp only [B_X7_tape_94, o_il, o_if, o_ic, o_iret, nth_3, cats_nil, cats_cons, rf_s, rf_n, isR_r, isR_n, isR_rf, cat_i, cat_l, cat_r, cat_n, cat_rf, unl_i, unl_l, unl_r, unl_n, unl_j, unl_rf, orf_r, orf_n, orf_rf, rf_null, mA_pm, mL_pm, mP_pm, List.length_cons, List.length_nil, List.cons_append, List.nil_append, Nat.reduceAdd, Nat.reduceLeDiff, Nat.reduceLT, Nat.reduceEqDiff, Nat.zero_add, Nat.add_zero, Nat.le_refl, Nat.zero_le, true_and, and_true, true_or, or_true, false_or, or_false, reduceIte]
      refine ⟨fun z => ?_, fun z => H _ _ (Or.inr (Or.inl ⟨hb, Int32.not_le.mp z, rfl, hsc⟩))⟩
      apply h101
      simp only [B_X7_tape_101, o_al, o_gf, o_il, o_iast, o_dup, o_ic, o_ii, o_pI, o_iret, nth_0, nth_1, nth_2, nth_3, mV_7_2, al_7, hs.a7, hs.p2, kd_20, ix_20, hs.l20, rm_20, wm_20, ix_7, mV_7_1, rm_7, mV_7_3, hs.p3, kd_21, ix_21, hs.l21, rm_21, wm_21, mV_7_4, hs.p4, kd_22, ix_22, hs.l22, rm_22, wm_22, wm_7, wmJ_7, cats_nil, cats_cons, rf_s, rf_n, isR_r, isR_n, isR_rf, cat_i, cat_l, cat_r, cat_n, cat_rf, unl_i, unl_l, unl_r, unl_n, unl_j, unl_rf, orf_r, orf_n, orf_rf, rf_null, mA_pm, mL_pm, mP_pm, List.length_cons, List.length_nil, List.cons_append, List.nil_append, Nat.reduceAdd, Nat.reduceLeDiff, Nat.reduceLT, Nat.reduceEqDiff, Nat.zero_add, Nat.add_zero, Nat.le_refl, Nat.zero_le, true_and, and_true, true_or, or_true, false_or, or_false, reduceIte, uI_1, hT, Nat.reduceEqDiff, and_false, false_and, vin hT12, ncl hT12, nI_1, nI_pred]
      exact H _ _ (Or.inr (Or.inr ⟨hb, Int32.not_lt.mpr z, rfl, (((hsc.u 20 nT s).u 21 nT k).u 22 nT n).u 7 1 _⟩))
    · rcases hu with ⟨hu, -⟩ | ⟨-, hu⟩
      · exact absurd hu q3
      · exact Or.inr (Or.inr (Or.inl hu))
  have loop : ∀ m i u, i + m = nT → (u = 0 ∧ ∀ t, t < i → ¬ M.1 20 t = s) ∨ (u = 1 ∧ ∃ t, t < i ∧ M.1 20 t = s) → X 11 [.ref (ob 7 0), .int s, .int k, .int n, .int u, .int (nI i)] [] (pm c (uI M 7 0 0)) 0 0 := by
    intro m
    induction m with
    | zero =>
      intro i u hi hu
      apply h11
      simp only [B_X7_tape_11, o_il, o_al, o_gf, o_ic2, o_if, o_iald, nth_5, nth_0, nth_4, nth_1, mV_7_1, al_7, hs.a7, rm_7, ix_7, mV_7_2, hs.p2, kd_20, ix_20, hs.l20, rm_20, wm_20, cats_nil, cats_cons, rf_s, rf_n, isR_r, isR_n, isR_rf, cat_i, cat_l, cat_r, cat_n, cat_rf, unl_i, unl_l, unl_r, unl_n, unl_j, unl_rf, orf_r, orf_n, orf_rf, rf_null, mA_pm, mL_pm, mP_pm, List.length_cons, List.length_nil, List.cons_append, List.nil_append, Nat.reduceAdd, Nat.reduceLeDiff, Nat.reduceLT, Nat.reduceEqDiff, Nat.zero_add, Nat.add_zero, Nat.le_refl, Nat.zero_le, true_and, and_true, true_or, or_true, false_or, or_false, reduceIte, uI_1, hT, Nat.reduceEqDiff, and_false]
      refine ⟨fun _ => k49 u _ ?_, fun q => absurd (nI_le (by omega) (by omega)) q⟩
      rw [show nT = i by omega]
      exact hu
    | succ m ih =>
      intro i u hi hu
      have hi2 : i < 12 := by omega
      have k41 : ∀ y u', (y = 0 ∧ ∀ t, t < i + 1 → ¬ M.1 20 t = s) ∨ (y = 1 ∧ ∃ t, t < i + 1 ∧ M.1 20 t = s) → X 41 [.ref (ob 7 0), .int s, .int k, .int n, .int u', .int (nI i)] [.int y] (pm c (uI M 7 0 0)) 0 0 := by
        intro y u' hy
        apply h41
        simp only [B_X7_tape_41, o_is, o_inc, lset_4, nth_5, lset_5, cats_nil, cats_cons, rf_s, rf_n, isR_r, isR_n, isR_rf, cat_i, cat_l, cat_r, cat_n, cat_rf, unl_i, unl_l, unl_r, unl_n, unl_j, unl_rf, orf_r, orf_n, orf_rf, rf_null, mA_pm, mL_pm, mP_pm, List.length_cons, List.length_nil, List.cons_append, List.nil_append, Nat.reduceAdd, Nat.reduceLeDiff, Nat.reduceLT, Nat.reduceEqDiff, Nat.zero_add, Nat.add_zero, Nat.le_refl, Nat.zero_le, true_and, and_true, true_or, or_true, false_or, or_false, reduceIte, nI_1]
        exact ih (i + 1) y (by omega) hy
      have k36 : (∃ t, t < i + 1 ∧ M.1 20 t = s) → X 36 [.ref (ob 7 0), .int s, .int k, .int n, .int u, .int (nI i)] [] (pm c (uI M 7 0 0)) 0 0 := by
        intro q
        apply h36
        simp only [B_X7_tape_36, o_ic, cats_nil, cats_cons, rf_s, rf_n, isR_r, isR_n, isR_rf, cat_i, cat_l, cat_r, cat_n, cat_rf, unl_i, unl_l, unl_r, unl_n, unl_j, unl_rf, orf_r, orf_n, orf_rf, rf_null, mA_pm, mL_pm, mP_pm, List.length_cons, List.length_nil, List.cons_append, List.nil_append, Nat.reduceAdd, Nat.reduceLeDiff, Nat.reduceLT, Nat.reduceEqDiff, Nat.zero_add, Nat.add_zero, Nat.le_refl, Nat.zero_le, true_and, and_true, true_or, or_true, false_or, or_false, reduceIte]
        exact k41 1 u (Or.inr ⟨rfl, q⟩)
      apply h11
      simp only [B_X7_tape_11, o_il, o_al, o_gf, o_ic2, o_if, o_iald, nth_5, nth_0, nth_4, nth_1, mV_7_1, al_7, hs.a7, rm_7, ix_7, mV_7_2, hs.p2, kd_20, ix_20, hs.l20, rm_20, wm_20, cats_nil, cats_cons, rf_s, rf_n, isR_r, isR_n, isR_rf, cat_i, cat_l, cat_r, cat_n, cat_rf, unl_i, unl_l, unl_r, unl_n, unl_j, unl_rf, orf_r, orf_n, orf_rf, rf_null, mA_pm, mL_pm, mP_pm, List.length_cons, List.length_nil, List.cons_append, List.nil_append, Nat.reduceAdd, Nat.reduceLeDiff, Nat.reduceLT, Nat.reduceEqDiff, Nat.zero_add, Nat.add_zero, Nat.le_refl, Nat.zero_le, true_and, and_true, true_or, or_true, false_or, or_false, reduceIte, uI_1, hT, Nat.reduceEqDiff, and_false, false_and, vin hi2, ncl hi2]
      refine ⟨fun q => absurd q (by rw [nI_le_iff]; omega), fun _ => ⟨fun q => ⟨fun q2 => k36 ⟨i, by omega, q2⟩, fun q2 => ?_⟩, fun q => k36 ?_⟩⟩
      · apply h40
        simp only [B_X7_tape_40, o_ic, cats_nil, cats_cons, rf_s, rf_n, isR_r, isR_n, isR_rf, cat_i, cat_l, cat_r, cat_n, cat_rf, unl_i, unl_l, unl_r, unl_n, unl_j, unl_rf, orf_r, orf_n, orf_rf, rf_null, mA_pm, mL_pm, mP_pm, List.length_cons, List.length_nil, List.cons_append, List.nil_append, Nat.reduceAdd, Nat.reduceLeDiff, Nat.reduceLT, Nat.reduceEqDiff, Nat.zero_add, Nat.add_zero, Nat.le_refl, Nat.zero_le, true_and, and_true, true_or, or_true, false_or, or_false, reduceIte]
        refine k41 0 u (Or.inl ⟨rfl, fun t ht => ?_⟩)
        rcases hu with ⟨-, hu⟩ | ⟨hu, -⟩
        · rcases Nat.lt_or_ge t i with z | z
          · exact hu t z
          · rw [show t = i by omega]; exact q2
        · rw [hu] at q; exact absurd q (by decide)
      · rcases hu with ⟨hu, -⟩ | ⟨-, t, h1, h2⟩
        · exact absurd hu q
        · exact ⟨t, by omega, h2⟩
  apply h0
  simp only [B_X7_tape_0, o_al, o_ic, o_pI, o_is, nth_0, lset_4, lset_5, al_7, ix_7, hs.a7, wm_7, wmJ_7, cats_nil, cats_cons, rf_s, rf_n, isR_r, isR_n, isR_rf, cat_i, cat_l, cat_r, cat_n, cat_rf, unl_i, unl_l, unl_r, unl_n, unl_j, unl_rf, orf_r, orf_n, orf_rf, rf_null, mA_pm, mL_pm, mP_pm, List.length_cons, List.length_nil, List.cons_append, List.nil_append, Nat.reduceAdd, Nat.reduceLeDiff, Nat.reduceLT, Nat.reduceEqDiff, Nat.zero_add, Nat.add_zero, Nat.le_refl, Nat.zero_le, true_and, and_true, true_or, or_true, false_or, or_false, reduceIte]
  exact loop nT 0 0 (by omega) (Or.inl ⟨rfl, fun t ht => by omega⟩)
def readerBad (M : MD) (nR : Nat) (s : Int32) : Prop := ¬ (0 ≤ s ∧ s ≤ 39) ∨ (∃ t, t < nR ∧ M.1 35 t = s) ∨ nR = 3
def readerM (M : MD) (nR : Nat) (s : Int32) : MD := uI (uI (uI (uI M 35 nR s) 36 nR 0) 37 nR (-1)) 7 26 (nI (nR + 1))
theorem sp_reader (hs : SKM c) {nR : Nat} (hT : M.1 7 26 = nI nR) (hT2 : nR ≤ 3) (s : Int32) (H : ∀ r M', (readerBad M nR s ∧ r = -1 ∧ SC M M') ∨ (¬ readerBad M nR s ∧ r = nI nR ∧ SC (readerM M nR s) M') → Q [.int r] (pm c M')) : K_X7_reader l D (d + 2) [.ref (ob 7 0), .int s] (pm c M) Q := by
  refine m_X7_reader (lsA := [.ref (ob 7 0), .int s, jk, jk]) rfl (Nat.le_of_ble_eq_true rfl) ?_
  intro X h0 h9 h31 h35 h36 h43 h65 h67
  have hsc : SC M (uI M 7 0 0) := (SC.rf M).w 0 rfl
  have k65 : ∀ ls, readerBad M nR s → X 65 ls [] (pm c (uI M 7 0 0)) 0 0 := by
    intro ls q
    apply h65
    simp only [B_X7_reader_65, o_ic, o_iret, cats_nil, cats_cons, rf_s, rf_n, isR_r, isR_n, isR_rf, cat_i, cat_l, cat_r, cat_n, cat_rf, unl_i, unl_l, unl_r, unl_n, unl_j, unl_rf, orf_r, orf_n, orf_rf, rf_null, mA_pm, mL_pm, mP_pm, List.length_cons, List.length_nil, List.cons_append, List.nil_append, Nat.reduceAdd, Nat.reduceLeDiff, Nat.reduceLT, Nat.reduceEqDiff, Nat.zero_add, Nat.add_zero, Nat.le_refl, Nat.zero_le, true_and, and_true, true_or, or_true, false_or, or_false, reduceIte]
    exact H _ _ (Or.inl ⟨q, rfl, hsc⟩)
  have k43 : ∀ u v, (u = 0 ∧ ∀ t, t < nR → ¬ M.1 35 t = s) ∨ (u = 1 ∧ ∃ t, t < nR ∧ M.1 35 t = s) → X 43 [.ref (ob 7 0), .int s, .int u, v] [] (pm c (uI M 7 0 0)) 0 0 := by
    intro u v hu
    apply h43
    simp only [B_X7_reader_43, o_il, o_ic, o_if, o_al, o_gf, o_ic2, nth_1, nth_2, nth_0, opS_3, mV_7_26, al_7, hs.a7, rm_7, ix_7, cats_nil, cats_cons, rf_s, rf_n, isR_r, isR_n, isR_rf, cat_i, cat_l, cat_r, cat_n, cat_rf, unl_i, unl_l, unl_r, unl_n, unl_j, unl_rf, orf_r, orf_n, orf_rf, rf_null, mA_pm, mL_pm, mP_pm, List.length_cons, List.length_nil, List.cons_append, List.nil_append, Nat.reduceAdd, Nat.reduceLeDiff, Nat.reduceLT, Nat.reduceEqDiff, Nat.zero_add, Nat.add_zero, Nat.le_refl, Nat.zero_le, true_and, and_true, true_or, or_true, false_or, or_false, reduceIte]
    refine sp_within _ _ _ _ ?_
    simp only [o_il, o_ic, o_if, o_al, o_gf, o_ic2, nth_1, nth_2, nth_0, opS_3, mV_7_26, al_7, hs.a7, rm_7, ix_7, cats_nil, cats_cons, rf_s, rf_n, isR_r, isR_n, isR_rf, cat_i, cat_l, cat_r, cat_n, cat_rf, unl_i, unl_l, unl_r, unl_n, unl_j, unl_rf, orf_r, orf_n, orf_rf, rf_null, mA_pm, mL_pm, mP_pm, List.length_cons, List.length_nil, List.cons_append, List.nil_append, Nat.reduceAdd, Nat.reduceLeDiff, Nat.reduceLT, Nat.reduceEqDiff, Nat.zero_add, Nat.add_zero, Nat.le_refl, Nat.zero_le, true_and, and_true, true_or, or_true, false_or, or_false, reduceIte, uI_1, hT, Nat.reduceEqDiff, and_false]
    refine ⟨fun q => k65 _ (Or.inl (bi_e0 q)), fun q => ⟨fun q3 => ⟨fun q6 => k65 _ (Or.inr (Or.inr ?_)), fun q6 => ?_⟩, fun q3 => k65 _ ?_⟩⟩
    · rw [show (3 : Int32) = nI 3 from rfl, nI_eq_iff] at q6
      exact q6
    · have hb : ¬ readerBad M nR s := by
        rintro (z | ⟨t, z1, z2⟩ | z)
        · exact z (bi_ne0 q)
        · rcases hu with ⟨-, hu⟩ | ⟨hu, -⟩
          · exact hu t z1 z2
          · rw [hu] at q3
            exact absurd q3 (by decide)
        · exact q6 (by rw [z]; rfl)
      have hT12 : nR < 3 := by
        rcases Nat.lt_or_ge nR 3 with z | z
        · exact z
        · exact absurd (Or.inr (Or.inr (by omega))) hb
      apply h67
      simp only [B_X7_reader_67, o_al, o_gf, o_il, o_iast, o_ic, o_dup, o_ii, o_pI, o_iret, nth_0, nth_1, mV_7_27, al_7, hs.a7, hs.p27, kd_35, ix_35, hs.l35, rm_35, wm_35, ix_7, mV_7_26, rm_7, mV_7_28, hs.p28, kd_36, ix_36, hs.l36, rm_36, wm_36, mV_7_29, hs.p29, kd_37, ix_37, hs.l37, rm_37, wm_37, wm_7, wmJ_7, cats_nil, cats_cons, rf_s, rf_n, isR_r, isR_n, isR_rf, cat_i, cat_l, cat_r, cat_n, cat_rf, unl_i, unl_l, unl_r, unl_n, unl_j, unl_rf, orf_r, orf_n, orf_rf, rf_null, mA_pm, mL_pm, mP_pm, List.length_cons, List.length_nil, List.cons_append, List.nil_append, Nat.reduceAdd, Nat.reduceLeDiff, Nat.reduceLT, Nat.reduceEqDiff, Nat.zero_add, Nat.add_zero, Nat.le_refl, Nat.zero_le, true_and, and_true, true_or, or_true, false_or, or_false, reduceIte, uI_1, hT, Nat.reduceEqDiff, and_false, false_and, vin hT12, ncl hT12, nI_1, nI_pred]
      exact H _ _ (Or.inr ⟨hb, rfl, (((hsc.u 35 nR s).u 36 nR 0).u 37 nR (-1)).u 7 26 _⟩)
    · rcases hu with ⟨hu, -⟩ | ⟨-, hu⟩
      · exact absurd hu q3
      · exact Or.inr (Or.inl hu)
  have loop : ∀ m i u, i + m = nR → (u = 0 ∧ ∀ t, t < i → ¬ M.1 35 t = s) ∨ (u = 1 ∧ ∃ t, t < i ∧ M.1 35 t = s) → X 9 [.ref (ob 7 0), .int s, .int u, .int (nI i)] [] (pm c (uI M 7 0 0)) 0 0 := by
    intro m
    induction m with
    | zero =>
      intro i u hi hu
      apply h9
      simp only [B_X7_reader_9, o_il, o_al, o_gf, o_ic2, o_if, o_iald, nth_3, nth_0, nth_2, nth_1, mV_7_26, al_7, hs.a7, rm_7, ix_7, mV_7_27, hs.p27, kd_35, ix_35, hs.l35, rm_35, wm_35, cats_nil, cats_cons, rf_s, rf_n, isR_r, isR_n, isR_rf, cat_i, cat_l, cat_r, cat_n, cat_rf, unl_i, unl_l, unl_r, unl_n, unl_j, unl_rf, orf_r, orf_n, orf_rf, rf_null, mA_pm, mL_pm, mP_pm, List.length_cons, List.length_nil, List.cons_append, List.nil_append, Nat.reduceAdd, Nat.reduceLeDiff, Nat.reduceLT, Nat.reduceEqDiff, Nat.zero_add, Nat.add_zero, Nat.le_refl, Nat.zero_le, true_and, and_true, true_or, or_true, false_or, or_false, reduceIte, uI_1, hT, Nat.reduceEqDiff, and_false]
      refine ⟨fun _ => k43 u _ ?_, fun q => absurd (nI_le (by omega) (by omega)) q⟩
      rw [show nR = i by omega]
      exact hu
    | succ m ih =>
      intro i u hi hu
      have hi2 : i < 3 := by omega
      have k36 : ∀ y u', (y = 0 ∧ ∀ t, t < i + 1 → ¬ M.1 35 t = s) ∨ (y = 1 ∧ ∃ t, t < i + 1 ∧ M.1 35 t = s) → X 36 [.ref (ob 7 0), .int s, .int u', .int (nI i)] [.int y] (pm c (uI M 7 0 0)) 0 0 := by
        intro y u' hy
        apply h36
        simp only [B_X7_reader_36, o_is, o_inc, lset_2, nth_3, lset_3, cats_nil, cats_cons, rf_s, rf_n, isR_r, isR_n, isR_rf, cat_i, cat_l, cat_r, cat_n, cat_rf, unl_i, unl_l, unl_r, unl_n, unl_j, unl_rf, orf_r, orf_n, orf_rf, rf_null, mA_pm, mL_pm, mP_pm, List.length_cons, List.length_nil, List.cons_append, List.nil_append, Nat.reduceAdd, Nat.reduceLeDiff, Nat.reduceLT, Nat.reduceEqDiff, Nat.zero_add, Nat.add_zero, Nat.le_refl, Nat.zero_le, true_and, and_true, true_or, or_true, false_or, or_false, reduceIte, nI_1]
        exact ih (i + 1) y (by omega) hy
      have k31 : (∃ t, t < i + 1 ∧ M.1 35 t = s) → X 31 [.ref (ob 7 0), .int s, .int u, .int (nI i)] [] (pm c (uI M 7 0 0)) 0 0 := by
        intro q
        apply h31
        simp only [B_X7_reader_31, o_ic, cats_nil, cats_cons, rf_s, rf_n, isR_r, isR_n, isR_rf, cat_i, cat_l, cat_r, cat_n, cat_rf, unl_i, unl_l, unl_r, unl_n, unl_j, unl_rf, orf_r, orf_n, orf_rf, rf_null, mA_pm, mL_pm, mP_pm, List.length_cons, List.length_nil, List.cons_append, List.nil_append, Nat.reduceAdd, Nat.reduceLeDiff, Nat.reduceLT, Nat.reduceEqDiff, Nat.zero_add, Nat.add_zero, Nat.le_refl, Nat.zero_le, true_and, and_true, true_or, or_true, false_or, or_false, reduceIte]
        exact k36 1 u (Or.inr ⟨rfl, q⟩)
      apply h9
      simp only [B_X7_reader_9, o_il, o_al, o_gf, o_ic2, o_if, o_iald, nth_3, nth_0, nth_2, nth_1, mV_7_26, al_7, hs.a7, rm_7, ix_7, mV_7_27, hs.p27, kd_35, ix_35, hs.l35, rm_35, wm_35, cats_nil, cats_cons, rf_s, rf_n, isR_r, isR_n, isR_rf, cat_i, cat_l, cat_r, cat_n, cat_rf, unl_i, unl_l, unl_r, unl_n, unl_j, unl_rf, orf_r, orf_n, orf_rf, rf_null, mA_pm, mL_pm, mP_pm, List.length_cons, List.length_nil, List.cons_append, List.nil_append, Nat.reduceAdd, Nat.reduceLeDiff, Nat.reduceLT, Nat.reduceEqDiff, Nat.zero_add, Nat.add_zero, Nat.le_refl, Nat.zero_le, true_and, and_true, true_or, or_true, false_or, or_false, reduceIte, uI_1, hT, Nat.reduceEqDiff, and_false, false_and, vin hi2, ncl hi2]
      refine ⟨fun q => absurd q (by rw [nI_le_iff]; omega), fun _ => ⟨fun q => ⟨fun q2 => k31 ⟨i, by omega, q2⟩, fun q2 => ?_⟩, fun q => k31 ?_⟩⟩
      · apply h35
        simp only [B_X7_reader_35, o_ic, cats_nil, cats_cons, rf_s, rf_n, isR_r, isR_n, isR_rf, cat_i, cat_l, cat_r, cat_n, cat_rf, unl_i, unl_l, unl_r, unl_n, unl_j, unl_rf, orf_r, orf_n, orf_rf, rf_null, mA_pm, mL_pm, mP_pm, List.length_cons, List.length_nil, List.cons_append, List.nil_append, Nat.reduceAdd, Nat.reduceLeDiff, Nat.reduceLT, Nat.reduceEqDiff, Nat.zero_add, Nat.add_zero, Nat.le_refl, Nat.zero_le, true_and, and_true, true_or, or_true, false_or, or_false, reduceIte]
        refine k36 0 u (Or.inl ⟨rfl, fun t ht => ?_⟩)
        rcases hu with ⟨-, hu⟩ | ⟨hu, -⟩
        · rcases Nat.lt_or_ge t i with z | z
          · exact hu t z
          · rw [show t = i by omega]; exact q2
        · rw [hu] at q; exact absurd q (by decide)
      · rcases hu with ⟨hu, -⟩ | ⟨-, t, h1, h2⟩
        · exact absurd hu q
        · exact ⟨t, by omega, h2⟩
  apply h0
  simp only [B_X7_reader_0, o_al, o_ic, o_pI, o_is, nth_0, lset_2, lset_3, al_7, ix_7, hs.a7, wm_7, wmJ_7, cats_nil, cats_cons, rf_s, rf_n, isR_r, isR_n, isR_rf, cat_i, cat_l, cat_r, cat_n, cat_rf, unl_i, unl_l, unl_r, unl_n, unl_j, unl_rf, orf_r, orf_n, orf_rf, rf_null, mA_pm, mL_pm, mP_pm, List.length_cons, List.length_nil, List.cons_append, List.nil_append, Nat.reduceAdd, Nat.reduceLeDiff, Nat.reduceLT, Nat.reduceEqDiff, Nat.zero_add, Nat.add_zero, Nat.le_refl, Nat.zero_le, true_and, and_true, true_or, or_true, false_or, or_false, reduceIte]
  exact loop nR 0 0 (by omega) (Or.inl ⟨rfl, fun t ht => by omega⟩)
def askIs (M : MD) (k a b : Int32) (t : Nat) : Prop := if k = 3 then ¬ a < 0 else (0 ≤ a ∧ a ≤ M.1 22 t - 1) ∧ (k = 1 → a ≤ b ∧ b ≤ M.1 22 t - 1)
def askM (M : MD) (nA : Nat) (k t a b : Int32) : MD := uI (uI (uI (uI (uI (uI (uI (uI M 25 nA k) 26 nA t) 27 nA a) 28 nA b) 29 nA (M.1 7 9)) 30 nA 0) 31 nA (-1)) 7 8 (nI (nA + 1))
theorem sp_ask (hs : SKM c) {nT nA : Nat} (hT : M.1 7 1 = nI nT) (hT2 : nT ≤ 12) (hA : M.1 7 8 = nI nA) (hA2 : nA ≤ 150) (k x a b : Int32) (H : ∀ r M', (∃ t, t < nT ∧ x = nI t ∧ (0 ≤ k ∧ k ≤ 4) ∧ nA < 150 ∧ askIs M k a b t ∧ r = nI nA ∧ SC (askM M nA k x a b) M') ∨ (¬ (∃ t, t < nT ∧ x = nI t ∧ (0 ≤ k ∧ k ≤ 4) ∧ nA < 150 ∧ askIs M k a b t) ∧ r = -1 ∧ SC M M') → Q [.int r] (pm c M')) : K_X7_ask l D (d + 3) [.ref (ob 7 0), .int k, .int x, .int a, .int b] (pm c M) Q := by
  refine m_X7_ask (lsA := [.ref (ob 7 0), .int k, .int x, .int a, .int b, jk]) rfl (Nat.le_of_ble_eq_true rfl) ?_
  intro X h0 h32 h34 h47 h51 h89 h93 h94 h103
  have hsc : SC M (uI M 7 0 0) := (SC.rf M).w 0 rfl
  have k32 : ∀ ls, ¬ (∃ t, t < nT ∧ x = nI t ∧ (0 ≤ k ∧ k ≤ 4) ∧ nA < 150 ∧ askIs M k a b t) → X 32 ls [] (pm c (uI M 7 0 0)) 0 0 := by
    intro ls q
    apply h32
    simp only [B_X7_ask_32, o_ic, o_iret, cats_nil, cats_cons, rf_s, rf_n, isR_r, isR_n, isR_rf, cat_i, cat_l, cat_r, cat_n, cat_rf, unl_i, unl_l, unl_r, unl_n, unl_j, unl_rf, orf_r, orf_n, orf_rf, rf_null, mA_pm, mL_pm, mP_pm, List.length_cons, List.length_nil, List.cons_append, List.nil_append, Nat.reduceAdd, Nat.reduceLeDiff, Nat.reduceLT, Nat.reduceEqDiff, Nat.zero_add, Nat.add_zero, Nat.le_refl, Nat.zero_le, true_and, and_true, true_or, or_true, false_or, or_false, reduceIte]
    exact H _ _ (Or.inr ⟨q, rfl, hsc⟩)
  apply h0
  simp only [B_X7_ask_0, o_al, o_ic, o_pI, o_il, o_if, o_gf, o_ic2, nth_0, nth_2, nth_1, opV_1, opS_3, mV_7_8, al_7, hs.a7, rm_7, ix_7, wm_7, wmJ_7, cats_nil, cats_cons, rf_s, rf_n, isR_r, isR_n, isR_rf, cat_i, cat_l, cat_r, cat_n, cat_rf, unl_i, unl_l, unl_r, unl_n, unl_j, unl_rf, orf_r, orf_n, orf_rf, rf_null, mA_pm, mL_pm, mP_pm, List.length_cons, List.length_nil, List.cons_append, List.nil_append, Nat.reduceAdd, Nat.reduceLeDiff, Nat.reduceLT, Nat.reduceEqDiff, Nat.zero_add, Nat.add_zero, Nat.le_refl, Nat.zero_le, true_and, and_true, true_or, or_true, false_or, or_false, reduceIte]
  refine sp_isTape hs _ ?_
  simp only [o_al, o_ic, o_pI, o_il, o_if, o_gf, o_ic2, nth_0, nth_2, nth_1, opV_1, opS_3, mV_7_8, al_7, hs.a7, rm_7, ix_7, wm_7, wmJ_7, cats_nil, cats_cons, rf_s, rf_n, isR_r, isR_n, isR_rf, cat_i, cat_l, cat_r, cat_n, cat_rf, unl_i, unl_l, unl_r, unl_n, unl_j, unl_rf, orf_r, orf_n, orf_rf, rf_null, mA_pm, mL_pm, mP_pm, List.length_cons, List.length_nil, List.cons_append, List.nil_append, Nat.reduceAdd, Nat.reduceLeDiff, Nat.reduceLT, Nat.reduceEqDiff, Nat.zero_add, Nat.add_zero, Nat.le_refl, Nat.zero_le, true_and, and_true, true_or, or_true, false_or, or_false, reduceIte, uI_1, hT, Nat.reduceEqDiff, and_false]
  refine ⟨fun q => k32 _ (fun ⟨t, h1, h2, _⟩ => bi_e0 q (by rw [h2]; exact in_nI' h1 (by omega))), fun q => ?_⟩
  obtain ⟨t, ht, rfl⟩ := in_nI (by omega) (bi_ne0 q)
  have ht2 : t < 12 := by omega
  refine sp_within _ _ _ _ ?_
  simp only [o_al, o_ic, o_pI, o_il, o_if, o_gf, o_ic2, nth_0, nth_2, nth_1, opV_1, opS_3, mV_7_8, al_7, hs.a7, rm_7, ix_7, wm_7, wmJ_7, cats_nil, cats_cons, rf_s, rf_n, isR_r, isR_n, isR_rf, cat_i, cat_l, cat_r, cat_n, cat_rf, unl_i, unl_l, unl_r, unl_n, unl_j, unl_rf, orf_r, orf_n, orf_rf, rf_null, mA_pm, mL_pm, mP_pm, List.length_cons, List.length_nil, List.cons_append, List.nil_append, Nat.reduceAdd, Nat.reduceLeDiff, Nat.reduceLT, Nat.reduceEqDiff, Nat.zero_add, Nat.add_zero, Nat.le_refl, Nat.zero_le, true_and, and_true, true_or, or_true, false_or, or_false, reduceIte, uI_1, hA, Nat.reduceEqDiff, and_false]
  refine ⟨fun q2 => k32 _ (fun ⟨_, _, _, h3, _⟩ => bi_e0 q2 h3), fun q2 => ⟨fun q3 => k32 _ (fun ⟨_, _, _, _, h4, _⟩ => ?_), fun q3 => ?_⟩⟩
  · rw [show (150 : Int32) = nI 150 from rfl, nI_eq_iff] at q3
    omega
  · have hA3 : nA < 150 := by
      rcases Nat.lt_or_ge nA 150 with z | z
      · exact z
      · exact absurd (show nI nA = 150 by rw [show nA = 150 by omega]; rfl) q3
    have k94 : ∀ y v, (y = 1 ∧ askIs M k a b t) ∨ (y = 0 ∧ ¬ askIs M k a b t) → X 94 [.ref (ob 7 0), .int k, .int (nI t), .int a, .int b, v] [.int y] (pm c (uI M 7 0 0)) 0 0 := by
      intro y v hy
      apply h94
      simp only [B_X7_ask_94, o_is, o_il, o_if, o_ic, o_iret, lset_5, nth_5, cats_nil, cats_cons, rf_s, rf_n, isR_r, isR_n, isR_rf, cat_i, cat_l, cat_r, cat_n, cat_rf, unl_i, unl_l, unl_r, unl_n, unl_j, unl_rf, orf_r, orf_n, orf_rf, rf_null, mA_pm, mL_pm, mP_pm, List.length_cons, List.length_nil, List.cons_append, List.nil_append, Nat.reduceAdd, Nat.reduceLeDiff, Nat.reduceLT, Nat.reduceEqDiff, Nat.zero_add, Nat.add_zero, Nat.le_refl, Nat.zero_le, true_and, and_true, true_or, or_true, false_or, or_false, reduceIte]
      rcases hy with ⟨rfl, hy⟩ | ⟨rfl, hy⟩
      · refine ⟨fun z => absurd z (by decide), fun _ => ?_⟩
        apply h103
        simp only [B_X7_ask_103, o_al, o_gf, o_il, o_iast, o_ic, o_dup, o_ii, o_pI, o_iret, nth_0, nth_1, nth_2, nth_3, nth_4, mV_7_12, al_7, hs.a7, hs.p12, kd_25, ix_25, hs.l25, rm_25, wm_25, ix_7, mV_7_8, rm_7, mV_7_13, hs.p13, kd_26, ix_26, hs.l26, rm_26, wm_26, mV_7_14, hs.p14, kd_27, ix_27, hs.l27, rm_27, wm_27, mV_7_15, hs.p15, kd_28, ix_28, hs.l28, rm_28, wm_28, mV_7_16, hs.p16, kd_29, ix_29, hs.l29, rm_29, wm_29, mV_7_9, mV_7_17, hs.p17, kd_30, ix_30, hs.l30, rm_30, wm_30, mV_7_18, hs.p18, kd_31, ix_31, hs.l31, rm_31, wm_31, wm_7, wmJ_7, cats_nil, cats_cons, rf_s, rf_n, isR_r, isR_n, isR_rf, cat_i, cat_l, cat_r, cat_n, cat_rf, unl_i, unl_l, unl_r, unl_n, unl_j, unl_rf, orf_r, orf_n, orf_rf, rf_null, mA_pm, mL_pm, mP_pm, List.length_cons, List.length_nil, List.cons_append, List.nil_append, Nat.reduceAdd, Nat.reduceLeDiff, Nat.reduceLT, Nat.reduceEqDiff, Nat.zero_add, Nat.add_zero, Nat.le_refl, Nat.zero_le, true_and, and_true, true_or, or_true, false_or, or_false, reduceIte, uI_1, hA, Nat.reduceEqDiff, and_false, false_and, vin hA3, ncl hA3, nI_1, nI_pred]
        exact H _ _ (Or.inl ⟨t, ht, rfl, bi_ne0 q2, hA3, hy, rfl, (((((((hsc.u 25 nA k).u 26 nA _).u 27 nA a).u 28 nA b).u 29 nA _).u 30 nA 0).u 31 nA (-1)).u 7 8 _⟩)
      · refine ⟨fun _ => H _ _ (Or.inr ⟨fun ⟨t', h1, h2, h3, h4, h5⟩ => hy ?_, rfl, hsc⟩), fun z => by first | exact absurd rfl z | exact absurd trivial z⟩
        rw [nI_eq_iff] at h2
        rw [h2]
        exact h5
    have k93 : ∀ v, ¬ askIs M k a b t → X 93 [.ref (ob 7 0), .int k, .int (nI t), .int a, .int b, v] [] (pm c (uI M 7 0 0)) 0 0 := by
      intro v q
      apply h93
      simp only [B_X7_ask_93, o_ic, cats_nil, cats_cons, rf_s, rf_n, isR_r, isR_n, isR_rf, cat_i, cat_l, cat_r, cat_n, cat_rf, unl_i, unl_l, unl_r, unl_n, unl_j, unl_rf, orf_r, orf_n, orf_rf, rf_null, mA_pm, mL_pm, mP_pm, List.length_cons, List.length_nil, List.cons_append, List.nil_append, Nat.reduceAdd, Nat.reduceLeDiff, Nat.reduceLT, Nat.reduceEqDiff, Nat.zero_add, Nat.add_zero, Nat.le_refl, Nat.zero_le, true_and, and_true, true_or, or_true, false_or, or_false, reduceIte]
      exact k94 0 v (Or.inr ⟨rfl, q⟩)
    have k89 : ∀ v, askIs M k a b t → X 89 [.ref (ob 7 0), .int k, .int (nI t), .int a, .int b, v] [] (pm c (uI M 7 0 0)) 0 0 := by
      intro v q
      apply h89
      simp only [B_X7_ask_89, o_ic, cats_nil, cats_cons, rf_s, rf_n, isR_r, isR_n, isR_rf, cat_i, cat_l, cat_r, cat_n, cat_rf, unl_i, unl_l, unl_r, unl_n, unl_j, unl_rf, orf_r, orf_n, orf_rf, rf_null, mA_pm, mL_pm, mP_pm, List.length_cons, List.length_nil, List.cons_append, List.nil_append, Nat.reduceAdd, Nat.reduceLeDiff, Nat.reduceLT, Nat.reduceEqDiff, Nat.zero_add, Nat.add_zero, Nat.le_refl, Nat.zero_le, true_and, and_true, true_or, or_true, false_or, or_false, reduceIte]
      exact k94 1 v (Or.inl ⟨rfl, q⟩)
    apply h34
    simp only [B_X7_ask_34, o_il, o_ic, o_ic2, o_if, nth_1, nth_3, cats_nil, cats_cons, rf_s, rf_n, isR_r, isR_n, isR_rf, cat_i, cat_l, cat_r, cat_n, cat_rf, unl_i, unl_l, unl_r, unl_n, unl_j, unl_rf, orf_r, orf_n, orf_rf, rf_null, mA_pm, mL_pm, mP_pm, List.length_cons, List.length_nil, List.cons_append, List.nil_append, Nat.reduceAdd, Nat.reduceLeDiff, Nat.reduceLT, Nat.reduceEqDiff, Nat.zero_add, Nat.add_zero, Nat.le_refl, Nat.zero_le, true_and, and_true, true_or, or_true, false_or, or_false, reduceIte]
    refine ⟨fun q4 => ⟨fun q5 => ?_, fun q5 => k94 1 _ (Or.inl ⟨rfl, by rw [askIs, if_pos q4]; exact q5⟩)⟩, fun q4 => ?_⟩
    · apply h47
      simp only [B_X7_ask_47, o_ic, cats_nil, cats_cons, rf_s, rf_n, isR_r, isR_n, isR_rf, cat_i, cat_l, cat_r, cat_n, cat_rf, unl_i, unl_l, unl_r, unl_n, unl_j, unl_rf, orf_r, orf_n, orf_rf, rf_null, mA_pm, mL_pm, mP_pm, List.length_cons, List.length_nil, List.cons_append, List.nil_append, Nat.reduceAdd, Nat.reduceLeDiff, Nat.reduceLT, Nat.reduceEqDiff, Nat.zero_add, Nat.add_zero, Nat.le_refl, Nat.zero_le, true_and, and_true, true_or, or_true, false_or, or_false, reduceIte]
      exact k94 0 _ (Or.inr ⟨rfl, by rw [askIs, if_pos q4]; exact fun z => z q5⟩)
    · have e9 : askIs M k a b t = ((0 ≤ a ∧ a ≤ M.1 22 t - 1) ∧ (k = 1 → a ≤ b ∧ b ≤ M.1 22 t - 1)) := if_neg q4
      apply h51
      simp only [B_X7_ask_51, o_il, o_ic, o_al, o_gf, o_iald, o_ii, o_if, o_ic2, nth_3, nth_0, nth_2, nth_1, nth_4, opS_3, mV_7_4, al_7, hs.a7, hs.p4, kd_22, ix_22, hs.l22, rm_22, wm_22, ix_7, cats_nil, cats_cons, rf_s, rf_n, isR_r, isR_n, isR_rf, cat_i, cat_l, cat_r, cat_n, cat_rf, unl_i, unl_l, unl_r, unl_n, unl_j, unl_rf, orf_r, orf_n, orf_rf, rf_null, mA_pm, mL_pm, mP_pm, List.length_cons, List.length_nil, List.cons_append, List.nil_append, Nat.reduceAdd, Nat.reduceLeDiff, Nat.reduceLT, Nat.reduceEqDiff, Nat.zero_add, Nat.add_zero, Nat.le_refl, Nat.zero_le, true_and, and_true, true_or, or_true, false_or, or_false, reduceIte, uI_1, vin ht2, ncl ht2, false_and, Nat.reduceEqDiff]
      refine sp_within _ _ _ _ ?_
      simp only [o_il, o_ic, o_al, o_gf, o_iald, o_ii, o_if, o_ic2, nth_3, nth_0, nth_2, nth_1, nth_4, opS_3, mV_7_4, al_7, hs.a7, hs.p4, kd_22, ix_22, hs.l22, rm_22, wm_22, ix_7, cats_nil, cats_cons, rf_s, rf_n, isR_r, isR_n, isR_rf, cat_i, cat_l, cat_r, cat_n, cat_rf, unl_i, unl_l, unl_r, unl_n, unl_j, unl_rf, orf_r, orf_n, orf_rf, rf_null, mA_pm, mL_pm, mP_pm, List.length_cons, List.length_nil, List.cons_append, List.nil_append, Nat.reduceAdd, Nat.reduceLeDiff, Nat.reduceLT, Nat.reduceEqDiff, Nat.zero_add, Nat.add_zero, Nat.le_refl, Nat.zero_le, true_and, and_true, true_or, or_true, false_or, or_false, reduceIte, uI_1, vin ht2, ncl ht2, false_and, Nat.reduceEqDiff]
      refine ⟨fun q5 => k93 _ (by rw [e9]; exact fun z => bi_e0 q5 z.1), fun q5 => ⟨fun q6 => ?_, fun q6 => k89 _ (by rw [e9]; exact ⟨bi_ne0 q5, fun z => absurd z q6⟩)⟩⟩
      refine sp_within _ _ _ _ ?_
      simp only [o_il, o_ic, o_al, o_gf, o_iald, o_ii, o_if, o_ic2, nth_3, nth_0, nth_2, nth_1, nth_4, opS_3, mV_7_4, al_7, hs.a7, hs.p4, kd_22, ix_22, hs.l22, rm_22, wm_22, ix_7, cats_nil, cats_cons, rf_s, rf_n, isR_r, isR_n, isR_rf, cat_i, cat_l, cat_r, cat_n, cat_rf, unl_i, unl_l, unl_r, unl_n, unl_j, unl_rf, orf_r, orf_n, orf_rf, rf_null, mA_pm, mL_pm, mP_pm, List.length_cons, List.length_nil, List.cons_append, List.nil_append, Nat.reduceAdd, Nat.reduceLeDiff, Nat.reduceLT, Nat.reduceEqDiff, Nat.zero_add, Nat.add_zero, Nat.le_refl, Nat.zero_le, true_and, and_true, true_or, or_true, false_or, or_false, reduceIte]
      exact ⟨fun q7 => k93 _ (by rw [e9]; exact fun z => bi_e0 q7 (z.2 q6)), fun q7 => k89 _ (by rw [e9]; exact ⟨bi_ne0 q5, fun _ => bi_ne0 q7⟩)⟩
/-- a number at a place: whether there is one, and which -/
def cellIs (M : MD) (nT : Nat) (x y : Int32) (t i : Nat) : Prop := t < nT ∧ x = nI t ∧ ¬ M.1 21 t = 4 ∧ ∃ p, M.1 22 t = nI p ∧ p ≤ 60 ∧ i < p ∧ y = nI i
theorem sp_cell (hs : SKM c) {nT : Nat} (hT : M.1 7 1 = nI nT) (hT2 : nT ≤ 12) (hP : ∀ t, t < nT → ∃ p, p ≤ 60 ∧ M.1 22 t = nI p) (x y : Int32) (H : ∀ r w M', SC M M' → M'.1 7 0 = w → (∃ t i, cellIs M nT x y t i ∧ w = 0 ∧ r = M.2 91 (60 * t + i)) ∨ ((∀ t i, ¬ cellIs M nT x y t i) ∧ w = 1 ∧ r = 0) → Q [.long r] (pm c M')) : K_X7_cell l D (d + 3) [.ref (ob 7 0), .int x, .int y] (pm c M) Q := by
  refine m_X7_cell (lsA := [.ref (ob 7 0), .int x, .int y, jk]) rfl (Nat.le_of_ble_eq_true rfl) ?_
  intro X h0 h38 h39 h49 h50 h71 h72
  have k38 : (∀ t i, ¬ cellIs M nT x y t i) → X 38 [.ref (ob 7 0), .int x, .int y, jk] [] (pm c M) 0 0 := by
    intro q
    apply h38
    simp only [B_X7_cell_38, o_ic, cats_nil, cats_cons, rf_s, rf_n, isR_r, isR_n, isR_rf, cat_i, cat_l, cat_r, cat_n, cat_rf, unl_i, unl_l, unl_r, unl_n, unl_j, unl_rf, orf_r, orf_n, orf_rf, rf_null, mA_pm, mL_pm, mP_pm, List.length_cons, List.length_nil, List.cons_append, List.nil_append, Nat.reduceAdd, Nat.reduceLeDiff, Nat.reduceLT, Nat.reduceEqDiff, Nat.zero_add, Nat.add_zero, Nat.le_refl, Nat.zero_le, true_and, and_true, true_or, or_true, false_or, or_false, reduceIte]
    apply h39
    simp only [B_X7_cell_39, o_is, o_al, o_il, o_if, o_ic, lset_3, nth_0, nth_3, cats_nil, cats_cons, rf_s, rf_n, isR_r, isR_n, isR_rf, cat_i, cat_l, cat_r, cat_n, cat_rf, unl_i, unl_l, unl_r, unl_n, unl_j, unl_rf, orf_r, orf_n, orf_rf, rf_null, mA_pm, mL_pm, mP_pm, List.length_cons, List.length_nil, List.cons_append, List.nil_append, Nat.reduceAdd, Nat.reduceLeDiff, Nat.reduceLT, Nat.reduceEqDiff, Nat.zero_add, Nat.add_zero, Nat.le_refl, Nat.zero_le, true_and, and_true, true_or, or_true, false_or, or_false, reduceIte]
    refine ⟨fun _ => ?_, fun z => by first | exact absurd rfl z | exact absurd trivial z⟩
    apply h49
    simp only [B_X7_cell_49, o_ic, cats_nil, cats_cons, rf_s, rf_n, isR_r, isR_n, isR_rf, cat_i, cat_l, cat_r, cat_n, cat_rf, unl_i, unl_l, unl_r, unl_n, unl_j, unl_rf, orf_r, orf_n, orf_rf, rf_null, mA_pm, mL_pm, mP_pm, List.length_cons, List.length_nil, List.cons_append, List.nil_append, Nat.reduceAdd, Nat.reduceLeDiff, Nat.reduceLT, Nat.reduceEqDiff, Nat.zero_add, Nat.add_zero, Nat.le_refl, Nat.zero_le, true_and, and_true, true_or, or_true, false_or, or_false, reduceIte]
    apply h50
    simp only [B_X7_cell_50, o_pI, o_il, o_if, o_al, o_gf, o_ic, o_ii, o_lald, nth_3, nth_0, nth_1, nth_2, mV_7_7, al_7, hs.a7, hs.p7, kd_91, ix_91, hs.l91, rm_91, wm_91, ix_7, wm_7, wmJ_7, cats_nil, cats_cons, rf_s, rf_n, isR_r, isR_n, isR_rf, cat_i, cat_l, cat_r, cat_n, cat_rf, unl_i, unl_l, unl_r, unl_n, unl_j, unl_rf, orf_r, orf_n, orf_rf, rf_null, mA_pm, mL_pm, mP_pm, List.length_cons, List.length_nil, List.cons_append, List.nil_append, Nat.reduceAdd, Nat.reduceLeDiff, Nat.reduceLT, Nat.reduceEqDiff, Nat.zero_add, Nat.add_zero, Nat.le_refl, Nat.zero_le, true_and, and_true, true_or, or_true, false_or, or_false, reduceIte]
    refine ⟨fun _ => ?_, fun z => by first | exact absurd rfl z | exact absurd trivial z⟩
    apply h71
    simp only [B_X7_cell_71, o_lc, cats_nil, cats_cons, rf_s, rf_n, isR_r, isR_n, isR_rf, cat_i, cat_l, cat_r, cat_n, cat_rf, unl_i, unl_l, unl_r, unl_n, unl_j, unl_rf, orf_r, orf_n, orf_rf, rf_null, mA_pm, mL_pm, mP_pm, List.length_cons, List.length_nil, List.cons_append, List.nil_append, Nat.reduceAdd, Nat.reduceLeDiff, Nat.reduceLT, Nat.reduceEqDiff, Nat.zero_add, Nat.add_zero, Nat.le_refl, Nat.zero_le, true_and, and_true, true_or, or_true, false_or, or_false, reduceIte]
    apply h72
    simp only [B_X7_cell_72, o_lret, cats_nil, cats_cons, rf_s, rf_n, isR_r, isR_n, isR_rf, cat_i, cat_l, cat_r, cat_n, cat_rf, unl_i, unl_l, unl_r, unl_n, unl_j, unl_rf, orf_r, orf_n, orf_rf, rf_null, mA_pm, mL_pm, mP_pm, List.length_cons, List.length_nil, List.cons_append, List.nil_append, Nat.reduceAdd, Nat.reduceLeDiff, Nat.reduceLT, Nat.reduceEqDiff, Nat.zero_add, Nat.add_zero, Nat.le_refl, Nat.zero_le, true_and, and_true, true_or, or_true, false_or, or_false, reduceIte]
    exact H 0 1 _ ((SC.rf M).w 1 rfl) rfl (Or.inr ⟨q, rfl, rfl⟩)
  apply h0
  simp only [B_X7_cell_0, o_al, o_il, o_if, o_gf, o_iald, o_ic, o_ic2, o_ii, nth_0, nth_1, nth_2, opV_1, opS_3, mV_7_3, al_7, hs.a7, hs.p3, kd_21, ix_21, hs.l21, rm_21, wm_21, ix_7, mV_7_4, hs.p4, kd_22, ix_22, hs.l22, rm_22, wm_22, cats_nil, cats_cons, rf_s, rf_n, isR_r, isR_n, isR_rf, cat_i, cat_l, cat_r, cat_n, cat_rf, unl_i, unl_l, unl_r, unl_n, unl_j, unl_rf, orf_r, orf_n, orf_rf, rf_null, mA_pm, mL_pm, mP_pm, List.length_cons, List.length_nil, List.cons_append, List.nil_append, Nat.reduceAdd, Nat.reduceLeDiff, Nat.reduceLT, Nat.reduceEqDiff, Nat.zero_add, Nat.add_zero, Nat.le_refl, Nat.zero_le, true_and, and_true, true_or, or_true, false_or, or_false, reduceIte]
  refine sp_isTape hs _ ?_
  simp only [o_al, o_il, o_if, o_gf, o_iald, o_ic, o_ic2, o_ii, nth_0, nth_1, nth_2, opV_1, opS_3, mV_7_3, al_7, hs.a7, hs.p3, kd_21, ix_21, hs.l21, rm_21, wm_21, ix_7, mV_7_4, hs.p4, kd_22, ix_22, hs.l22, rm_22, wm_22, cats_nil, cats_cons, rf_s, rf_n, isR_r, isR_n, isR_rf, cat_i, cat_l, cat_r, cat_n, cat_rf, unl_i, unl_l, unl_r, unl_n, unl_j, unl_rf, orf_r, orf_n, orf_rf, rf_null, mA_pm, mL_pm, mP_pm, List.length_cons, List.length_nil, List.cons_append, List.nil_append, Nat.reduceAdd, Nat.reduceLeDiff, Nat.reduceLT, Nat.reduceEqDiff, Nat.zero_add, Nat.add_zero, Nat.le_refl, Nat.zero_le, true_and, and_true, true_or, or_true, false_or, or_false, reduceIte, hT]
  refine ⟨fun q => k38 (fun t i h => bi_e0 q (by rw [h.2.1]; exact in_nI' h.1 (by omega))), fun q => ?_⟩
  obtain ⟨t, ht, rfl⟩ := in_nI (by omega) (bi_ne0 q)
  have ht2 : t < 12 := by omega
  obtain ⟨p, hp, hp2⟩ := hP t ht
  simp only [o_al, o_il, o_if, o_gf, o_iald, o_ic, o_ic2, o_ii, nth_0, nth_1, nth_2, opV_1, opS_3, mV_7_3, al_7, hs.a7, hs.p3, kd_21, ix_21, hs.l21, rm_21, wm_21, ix_7, mV_7_4, hs.p4, kd_22, ix_22, hs.l22, rm_22, wm_22, cats_nil, cats_cons, rf_s, rf_n, isR_r, isR_n, isR_rf, cat_i, cat_l, cat_r, cat_n, cat_rf, unl_i, unl_l, unl_r, unl_n, unl_j, unl_rf, orf_r, orf_n, orf_rf, rf_null, mA_pm, mL_pm, mP_pm, List.length_cons, List.length_nil, List.cons_append, List.nil_append, Nat.reduceAdd, Nat.reduceLeDiff, Nat.reduceLT, Nat.reduceEqDiff, Nat.zero_add, Nat.add_zero, Nat.le_refl, Nat.zero_le, true_and, and_true, true_or, or_true, false_or, or_false, reduceIte, vin ht2, ncl ht2, hp2]
  refine ⟨fun q2 => k38 (fun t' i h => ?_), fun q2 => ?_⟩
  · obtain ⟨h1, h2, h3, -⟩ := h
    rw [nI_eq_iff] at h2
    rw [← h2] at h3
    exact h3 q2
  · refine sp_within _ _ _ _ ?_
    simp only [o_al, o_il, o_if, o_gf, o_iald, o_ic, o_ic2, o_ii, nth_0, nth_1, nth_2, opV_1, opS_3, mV_7_3, al_7, hs.a7, hs.p3, kd_21, ix_21, hs.l21, rm_21, wm_21, ix_7, mV_7_4, hs.p4, kd_22, ix_22, hs.l22, rm_22, wm_22, cats_nil, cats_cons, rf_s, rf_n, isR_r, isR_n, isR_rf, cat_i, cat_l, cat_r, cat_n, cat_rf, unl_i, unl_l, unl_r, unl_n, unl_j, unl_rf, orf_r, orf_n, orf_rf, rf_null, mA_pm, mL_pm, mP_pm, List.length_cons, List.length_nil, List.cons_append, List.nil_append, Nat.reduceAdd, Nat.reduceLeDiff, Nat.reduceLT, Nat.reduceEqDiff, Nat.zero_add, Nat.add_zero, Nat.le_refl, Nat.zero_le, true_and, and_true, true_or, or_true, false_or, or_false, reduceIte]
    refine ⟨fun q3 => k38 (fun t' i h => bi_e0 q3 ?_), fun q3 => ?_⟩
    · obtain ⟨h1, h2, h3, p', h4, h5, h6, h7⟩ := h
      rw [nI_eq_iff] at h2
      rw [← h2, hp2, nI_eq_iff] at h4
      rw [h7]
      exact in_nI' (by omega) (by omega)
    · obtain ⟨i, hi, rfl⟩ := in_nI (by omega) (bi_ne0 q3)
      have hi2 : 60 * t + i < 720 := by omega
      have e1 : (60 : Int32) * nI t + nI i = nI (60 * t + i) := by
        rw [show (60 : Int32) = nI 60 from rfl, pk_mul, nI_add]
      apply h39
      simp only [B_X7_cell_39, o_is, o_al, o_il, o_if, o_ic, lset_3, nth_0, nth_3, cats_nil, cats_cons, rf_s, rf_n, isR_r, isR_n, isR_rf, cat_i, cat_l, cat_r, cat_n, cat_rf, unl_i, unl_l, unl_r, unl_n, unl_j, unl_rf, orf_r, orf_n, orf_rf, rf_null, mA_pm, mL_pm, mP_pm, List.length_cons, List.length_nil, List.cons_append, List.nil_append, Nat.reduceAdd, Nat.reduceLeDiff, Nat.reduceLT, Nat.reduceEqDiff, Nat.zero_add, Nat.add_zero, Nat.le_refl, Nat.zero_le, true_and, and_true, true_or, or_true, false_or, or_false, reduceIte]
      refine ⟨fun z => absurd z (by decide), fun _ => ?_⟩
      apply h50
      simp only [B_X7_cell_50, o_pI, o_il, o_if, o_al, o_gf, o_ic, o_ii, o_lald, nth_3, nth_0, nth_1, nth_2, mV_7_7, al_7, hs.a7, hs.p7, kd_91, ix_91, hs.l91, rm_91, wm_91, ix_7, wm_7, wmJ_7, cats_nil, cats_cons, rf_s, rf_n, isR_r, isR_n, isR_rf, cat_i, cat_l, cat_r, cat_n, cat_rf, unl_i, unl_l, unl_r, unl_n, unl_j, unl_rf, orf_r, orf_n, orf_rf, rf_null, mA_pm, mL_pm, mP_pm, List.length_cons, List.length_nil, List.cons_append, List.nil_append, Nat.reduceAdd, Nat.reduceLeDiff, Nat.reduceLT, Nat.reduceEqDiff, Nat.zero_add, Nat.add_zero, Nat.le_refl, Nat.zero_le, true_and, and_true, true_or, or_true, false_or, or_false, reduceIte, e1, vin hi2, ncl hi2, uI_2]
      refine ⟨fun z => absurd z (by decide), fun _ => ?_⟩
      apply h72
      simp only [B_X7_cell_72, o_lret, cats_nil, cats_cons, rf_s, rf_n, isR_r, isR_n, isR_rf, cat_i, cat_l, cat_r, cat_n, cat_rf, unl_i, unl_l, unl_r, unl_n, unl_j, unl_rf, orf_r, orf_n, orf_rf, rf_null, mA_pm, mL_pm, mP_pm, List.length_cons, List.length_nil, List.cons_append, List.nil_append, Nat.reduceAdd, Nat.reduceLeDiff, Nat.reduceLT, Nat.reduceEqDiff, Nat.zero_add, Nat.add_zero, Nat.le_refl, Nat.zero_le, true_and, and_true, true_or, or_true, false_or, or_false, reduceIte]
      exact H _ 0 _ ((SC.rf M).w 0 rfl) rfl (Or.inl ⟨t, i, ⟨ht, rfl, q2, p, hp2, hp, hi, rfl⟩, rfl, rfl⟩)
end ZM4
