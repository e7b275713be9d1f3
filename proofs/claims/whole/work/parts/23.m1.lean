/-! The model's methods without orders -/
section ZM1
variable {l : Launch} {D : DD} {d : Nat} {c : HP} {M : MD} {Q : List Value → HP → Prop}
theorem sp_isAtHome (hs : SKM c) {t : Nat} (ht : t < 12) (H : Q [.int (bi (M.1 24 t = 0 ∧ ¬ (M.1 43 0 = nI t ∨ M.1 43 1 = nI t)))] (pm c M)) : K_X7_isAtHome l D (d + 2) [.ref (ob 7 0), .int (nI t)] (pm c M) Q := by
  refine m_X7_isAtHome (lsA := [.ref (ob 7 0), .int (nI t)]) rfl (Nat.le_of_ble_eq_true rfl) ?_
  intro X h0 h21 h22
  unfold bi at H
  have k22 : ∀ (x : Int32) ls, x = (if M.1 24 t = 0 ∧ ¬ (M.1 43 0 = nI t ∨ M.1 43 1 = nI t) then 1 else 0) → X 22 ls [.int x] (pm c M) 0 0 := by
    intro x ls hx
    apply h22
    simp only [B_X7_isAtHome_22, o_zret, cats_nil, cats_cons, rf_s, rf_n, isR_r, isR_n, isR_rf, cat_i, cat_l, cat_r, cat_n, cat_rf, unl_i, unl_l, unl_r, unl_n, unl_j, unl_rf, orf_r, orf_n, orf_rf, rf_null, mA_pm, mL_pm, mP_pm, List.length_cons, List.length_nil, List.cons_append, List.nil_append, Nat.reduceAdd, Nat.reduceLeDiff, Nat.reduceLT, Nat.reduceEqDiff, Nat.zero_add, Nat.add_zero, Nat.le_refl, Nat.zero_le, true_and, and_true, true_or, or_true, false_or, or_false, reduceIte]
    rw [hx]
    exact ⟨by split <;> simp, H⟩
  have k21 : ∀ ls, ¬ (M.1 24 t = 0 ∧ ¬ (M.1 43 0 = nI t ∨ M.1 43 1 = nI t)) → X 21 ls [] (pm c M) 0 0 := by
    intro ls hx
    apply h21
    simp only [B_X7_isAtHome_21, o_ic, cats_nil, cats_cons, rf_s, rf_n, isR_r, isR_n, isR_rf, cat_i, cat_l, cat_r, cat_n, cat_rf, unl_i, unl_l, unl_r, unl_n, unl_j, unl_rf, orf_r, orf_n, orf_rf, rf_null, mA_pm, mL_pm, mP_pm, List.length_cons, List.length_nil, List.cons_append, List.nil_append, Nat.reduceAdd, Nat.reduceLeDiff, Nat.reduceLT, Nat.reduceEqDiff, Nat.zero_add, Nat.add_zero, Nat.le_refl, Nat.zero_le, true_and, and_true, true_or, or_true, false_or, or_false, reduceIte]
    exact k22 _ _ (if_neg hx).symm
  apply h0
  simp only [B_X7_isAtHome_0, o_al, o_gf, o_il, o_iald, o_if, o_ic, nth_0, nth_1, opV_1, mV_7_6, al_7, hs.a7, hs.p6, kd_24, ix_24, hs.l24, rm_24, wm_24, ix_7, cats_nil, cats_cons, rf_s, rf_n, isR_r, isR_n, isR_rf, cat_i, cat_l, cat_r, cat_n, cat_rf, unl_i, unl_l, unl_r, unl_n, unl_j, unl_rf, orf_r, orf_n, orf_rf, rf_null, mA_pm, mL_pm, mP_pm, List.length_cons, List.length_nil, List.cons_append, List.nil_append, Nat.reduceAdd, Nat.reduceLeDiff, Nat.reduceLT, Nat.reduceEqDiff, Nat.zero_add, Nat.add_zero, Nat.le_refl, Nat.zero_le, true_and, and_true, true_or, or_true, false_or, or_false, reduceIte, vin ht, ncl ht]
  refine ⟨fun q => ?_, fun q => k21 _ (fun z => q z.1)⟩
  refine sp_hasJob hs _ ?_
  simp only [cats_nil, cats_cons, List.cons_append, List.nil_append, o_if, o_ic]
  refine ⟨fun z => k22 _ _ (if_pos ⟨q, fun y => ?_⟩).symm, fun z => k21 _ (fun y => z (bi_f y.2))⟩
  rw [bi_t y] at z
  exact absurd z (by decide)
theorem sp_thrown (hs : SKM c) (H : Q [.int (M.1 7 0)] (pm c M)) : K_X7_thrown l D (d + 1) [.ref (ob 7 0)] (pm c M) Q := by
  refine m_X7_thrown (lsA := [.ref (ob 7 0)]) rfl (Nat.le_of_ble_eq_true rfl) ?_
  intro X h0
  repeat' (first | (apply h0; simp only [B_X7_thrown_0, o_al, o_gf, o_iret, nth_0, mV_7_0, al_7, hs.a7, rm_7, ix_7, cats_nil, cats_cons, rf_s, rf_n, isR_r, isR_n, isR_rf, cat_i, cat_l, cat_r, cat_n, cat_rf, unl_i, unl_l, unl_r, unl_n, unl_j, unl_rf, orf_r, orf_n, orf_rf, rf_null, mA_pm, mL_pm, mP_pm, List.length_cons, List.length_nil, List.cons_append, List.nil_append, Nat.reduceAdd, Nat.reduceLeDiff, Nat.reduceLT, Nat.reduceEqDiff, Nat.zero_add, Nat.add_zero, Nat.le_refl, Nat.zero_le, true_and, and_true, true_or, or_true, false_or, or_false, reduceIte]) | (apply br_c <;> intro q))
  exact H
/-- the loops that count -/
theorem sp_inState (hs : SKM c) {nA : Nat} (hA : M.1 7 8 = nI nA) (hA2 : nA ≤ 150) (x : Int32) (H : Q [.int (nI (cn (fun k => decide (M.1 30 k = x)) nA))] (pm c M)) : K_X7_inState l D (d + 1) [.ref (ob 7 0), .int x] (pm c M) Q := by
  refine m_X7_inState (lsA := [.ref (ob 7 0), .int x, jk, jk]) rfl (Nat.le_of_ble_eq_true rfl) ?_
  intro X h0 h4 h27 h28 h36
  have loop : ∀ n k, k + n = nA → X 4 [.ref (ob 7 0), .int x, .int (nI (cn (fun k => decide (M.1 30 k = x)) k)), .int (nI k)] [] (pm c M) 0 0 := by
    intro n
    induction n with
    | zero =>
      intro k hk
      apply h4
      simp only [B_X7_inState_4, o_il, o_al, o_gf, o_ic2, o_iald, o_ic, nth_3, nth_0, nth_2, nth_1, mV_7_8, al_7, hs.a7, rm_7, ix_7, mV_7_17, hs.p17, kd_30, ix_30, hs.l30, rm_30, wm_30, cats_nil, cats_cons, rf_s, rf_n, isR_r, isR_n, isR_rf, cat_i, cat_l, cat_r, cat_n, cat_rf, unl_i, unl_l, unl_r, unl_n, unl_j, unl_rf, orf_r, orf_n, orf_rf, rf_null, mA_pm, mL_pm, mP_pm, List.length_cons, List.length_nil, List.cons_append, List.nil_append, Nat.reduceAdd, Nat.reduceLeDiff, Nat.reduceLT, Nat.reduceEqDiff, Nat.zero_add, Nat.add_zero, Nat.le_refl, Nat.zero_le, true_and, and_true, true_or, or_true, false_or, or_false, reduceIte, hA]
      refine ⟨fun _ => ?_, fun q => absurd (nI_le (by omega) (by omega)) q⟩
      apply h36
      simp only [B_X7_inState_36, o_il, o_iret, nth_2, cats_nil, cats_cons, rf_s, rf_n, isR_r, isR_n, isR_rf, cat_i, cat_l, cat_r, cat_n, cat_rf, unl_i, unl_l, unl_r, unl_n, unl_j, unl_rf, orf_r, orf_n, orf_rf, rf_null, mA_pm, mL_pm, mP_pm, List.length_cons, List.length_nil, List.cons_append, List.nil_append, Nat.reduceAdd, Nat.reduceLeDiff, Nat.reduceLT, Nat.reduceEqDiff, Nat.zero_add, Nat.add_zero, Nat.le_refl, Nat.zero_le, true_and, and_true, true_or, or_true, false_or, or_false, reduceIte]
      rw [show k = nA by omega]
      exact H
    | succ n ih =>
      intro k hk
      have hk2 : k < 150 := by omega
      have k28 : ∀ y : Int32, y = (if decide (M.1 30 k = x) = true then 1 else 0) → X 28 [.ref (ob 7 0), .int x, .int (nI (cn (fun k => decide (M.1 30 k = x)) k)), .int (nI k)] [.int y, .int (nI (cn (fun k => decide (M.1 30 k = x)) k))] (pm c M) 0 0 := by
        intro y hy
        apply h28
        simp only [B_X7_inState_28, o_ii, o_is, o_inc, lset_2, nth_3, lset_3, cats_nil, cats_cons, rf_s, rf_n, isR_r, isR_n, isR_rf, cat_i, cat_l, cat_r, cat_n, cat_rf, unl_i, unl_l, unl_r, unl_n, unl_j, unl_rf, orf_r, orf_n, orf_rf, rf_null, mA_pm, mL_pm, mP_pm, List.length_cons, List.length_nil, List.cons_append, List.nil_append, Nat.reduceAdd, Nat.reduceLeDiff, Nat.reduceLT, Nat.reduceEqDiff, Nat.zero_add, Nat.add_zero, Nat.le_refl, Nat.zero_le, true_and, and_true, true_or, or_true, false_or, or_false, reduceIte, nI_1]
        have := ih (k + 1) (by omega)
        rw [nI_cn] at this
        rw [hy]
        exact this
      apply h4
      simp only [B_X7_inState_4, o_il, o_al, o_gf, o_ic2, o_iald, o_ic, nth_3, nth_0, nth_2, nth_1, mV_7_8, al_7, hs.a7, rm_7, ix_7, mV_7_17, hs.p17, kd_30, ix_30, hs.l30, rm_30, wm_30, cats_nil, cats_cons, rf_s, rf_n, isR_r, isR_n, isR_rf, cat_i, cat_l, cat_r, cat_n, cat_rf, unl_i, unl_l, unl_r, unl_n, unl_j, unl_rf, orf_r, orf_n, orf_rf, rf_null, mA_pm, mL_pm, mP_pm, List.length_cons, List.length_nil, List.cons_append, List.nil_append, Nat.reduceAdd, Nat.reduceLeDiff, Nat.reduceLT, Nat.reduceEqDiff, Nat.zero_add, Nat.add_zero, Nat.le_refl, Nat.zero_le, true_and, and_true, true_or, or_true, false_or, or_false, reduceIte, hA, vin hk2, ncl hk2]
      refine ⟨fun q => absurd q (by rw [nI_le_iff]; omega), fun _ => ⟨fun q => ?_, fun q => ?_⟩⟩
      · exact k28 1 (by simp [q])
      · apply h27
        simp only [B_X7_inState_27, o_ic, cats_nil, cats_cons, rf_s, rf_n, isR_r, isR_n, isR_rf, cat_i, cat_l, cat_r, cat_n, cat_rf, unl_i, unl_l, unl_r, unl_n, unl_j, unl_rf, orf_r, orf_n, orf_rf, rf_null, mA_pm, mL_pm, mP_pm, List.length_cons, List.length_nil, List.cons_append, List.nil_append, Nat.reduceAdd, Nat.reduceLeDiff, Nat.reduceLT, Nat.reduceEqDiff, Nat.zero_add, Nat.add_zero, Nat.le_refl, Nat.zero_le, true_and, and_true, true_or, or_true, false_or, or_false, reduceIte]
        exact k28 0 (by simp [q])
  apply h0
  simp only [B_X7_inState_0, o_ic, o_is, lset_2, lset_3, cats_nil, cats_cons, rf_s, rf_n, isR_r, isR_n, isR_rf, cat_i, cat_l, cat_r, cat_n, cat_rf, unl_i, unl_l, unl_r, unl_n, unl_j, unl_rf, orf_r, orf_n, orf_rf, rf_null, mA_pm, mL_pm, mP_pm, List.length_cons, List.length_nil, List.cons_append, List.nil_append, Nat.reduceAdd, Nat.reduceLeDiff, Nat.reduceLT, Nat.reduceEqDiff, Nat.zero_add, Nat.add_zero, Nat.le_refl, Nat.zero_le, true_and, and_true, true_or, or_true, false_or, or_false, reduceIte]
  exact loop nA 0 (by omega)
theorem sp_waiting (hs : SKM c) {nA : Nat} (hA : M.1 7 8 = nI nA) (hA2 : nA ≤ 150) (x : Int32) (H : Q [.int (nI (cn (fun k => decide (M.1 26 k = x ∧ M.1 30 k = 0)) nA))] (pm c M)) : K_X7_waiting l D (d + 1) [.ref (ob 7 0), .int x] (pm c M) Q := by
  refine m_X7_waiting (lsA := [.ref (ob 7 0), .int x, jk, jk]) rfl (Nat.le_of_ble_eq_true rfl) ?_
  intro X h0 h4 h36 h37 h45
  have loop : ∀ n k, k + n = nA → X 4 [.ref (ob 7 0), .int x, .int (nI (cn (fun k => decide (M.1 26 k = x ∧ M.1 30 k = 0)) k)), .int (nI k)] [] (pm c M) 0 0 := by
    intro n
    induction n with
    | zero =>
      intro k hk
      apply h4
      simp only [B_X7_waiting_4, o_il, o_al, o_gf, o_ic2, o_iald, o_if, o_ic, nth_3, nth_0, nth_2, nth_1, mV_7_8, al_7, hs.a7, rm_7, ix_7, mV_7_13, hs.p13, kd_26, ix_26, hs.l26, rm_26, wm_26, mV_7_17, hs.p17, kd_30, ix_30, hs.l30, rm_30, wm_30, cats_nil, cats_cons, rf_s, rf_n, isR_r, isR_n, isR_rf, cat_i, cat_l, cat_r, cat_n, cat_rf, unl_i, unl_l, unl_r, unl_n, unl_j, unl_rf, orf_r, orf_n, orf_rf, rf_null, mA_pm, mL_pm, mP_pm, List.length_cons, List.length_nil, List.cons_append, List.nil_append, Nat.reduceAdd, Nat.reduceLeDiff, Nat.reduceLT, Nat.reduceEqDiff, Nat.zero_add, Nat.add_zero, Nat.le_refl, Nat.zero_le, true_and, and_true, true_or, or_true, false_or, or_false, reduceIte, hA]
      refine ⟨fun _ => ?_, fun q => absurd (nI_le (by omega) (by omega)) q⟩
      apply h45
      simp only [B_X7_waiting_45, o_il, o_iret, nth_2, cats_nil, cats_cons, rf_s, rf_n, isR_r, isR_n, isR_rf, cat_i, cat_l, cat_r, cat_n, cat_rf, unl_i, unl_l, unl_r, unl_n, unl_j, unl_rf, orf_r, orf_n, orf_rf, rf_null, mA_pm, mL_pm, mP_pm, List.length_cons, List.length_nil, List.cons_append, List.nil_append, Nat.reduceAdd, Nat.reduceLeDiff, Nat.reduceLT, Nat.reduceEqDiff, Nat.zero_add, Nat.add_zero, Nat.le_refl, Nat.zero_le, true_and, and_true, true_or, or_true, false_or, or_false, reduceIte]
      rw [show k = nA by omega]
      exact H
    | succ n ih =>
      intro k hk
      have hk2 : k < 150 := by omega
      have k37 : ∀ y : Int32, y = (if decide (M.1 26 k = x ∧ M.1 30 k = 0) = true then 1 else 0) → X 37 [.ref (ob 7 0), .int x, .int (nI (cn (fun k => decide (M.1 26 k = x ∧ M.1 30 k = 0)) k)), .int (nI k)] [.int y, .int (nI (cn (fun k => decide (M.1 26 k = x ∧ M.1 30 k = 0)) k))] (pm c M) 0 0 := by
        intro y hy
        apply h37
        simp only [B_X7_waiting_37, o_ii, o_is, o_inc, lset_2, nth_3, lset_3, cats_nil, cats_cons, rf_s, rf_n, isR_r, isR_n, isR_rf, cat_i, cat_l, cat_r, cat_n, cat_rf, unl_i, unl_l, unl_r, unl_n, unl_j, unl_rf, orf_r, orf_n, orf_rf, rf_null, mA_pm, mL_pm, mP_pm, List.length_cons, List.length_nil, List.cons_append, List.nil_append, Nat.reduceAdd, Nat.reduceLeDiff, Nat.reduceLT, Nat.reduceEqDiff, Nat.zero_add, Nat.add_zero, Nat.le_refl, Nat.zero_le, true_and, and_true, true_or, or_true, false_or, or_false, reduceIte, nI_1]
        have := ih (k + 1) (by omega)
        rw [nI_cn] at this
        rw [hy]
        exact this
      have k36 : ¬ (M.1 26 k = x ∧ M.1 30 k = 0) → X 36 [.ref (ob 7 0), .int x, .int (nI (cn (fun k => decide (M.1 26 k = x ∧ M.1 30 k = 0)) k)), .int (nI k)] [.int (nI (cn (fun k => decide (M.1 26 k = x ∧ M.1 30 k = 0)) k))] (pm c M) 0 0 := by
        intro q
        apply h36
        simp only [B_X7_waiting_36, o_ic, cats_nil, cats_cons, rf_s, rf_n, isR_r, isR_n, isR_rf, cat_i, cat_l, cat_r, cat_n, cat_rf, unl_i, unl_l, unl_r, unl_n, unl_j, unl_rf, orf_r, orf_n, orf_rf, rf_null, mA_pm, mL_pm, mP_pm, List.length_cons, List.length_nil, List.cons_append, List.nil_append, Nat.reduceAdd, Nat.reduceLeDiff, Nat.reduceLT, Nat.reduceEqDiff, Nat.zero_add, Nat.add_zero, Nat.le_refl, Nat.zero_le, true_and, and_true, true_or, or_true, false_or, or_false, reduceIte]
        exact k37 0 (by rw [decide_eq_false q]; rfl)
      apply h4
      simp only [B_X7_waiting_4, o_il, o_al, o_gf, o_ic2, o_iald, o_if, o_ic, nth_3, nth_0, nth_2, nth_1, mV_7_8, al_7, hs.a7, rm_7, ix_7, mV_7_13, hs.p13, kd_26, ix_26, hs.l26, rm_26, wm_26, mV_7_17, hs.p17, kd_30, ix_30, hs.l30, rm_30, wm_30, cats_nil, cats_cons, rf_s, rf_n, isR_r, isR_n, isR_rf, cat_i, cat_l, cat_r, cat_n, cat_rf, unl_i, unl_l, unl_r, unl_n, unl_j, unl_rf, orf_r, orf_n, orf_rf, rf_null, mA_pm, mL_pm, mP_pm, List.length_cons, List.length_nil, List.cons_append, List.nil_append, Nat.reduceAdd, Nat.reduceLeDiff, Nat.reduceLT, Nat.reduceEqDiff, Nat.zero_add, Nat.add_zero, Nat.le_refl, Nat.zero_le, true_and, and_true, true_or, or_true, false_or, or_false, reduceIte, hA, vin hk2, ncl hk2]
      refine ⟨fun q => absurd q (by rw [nI_le_iff]; omega), fun _ => ⟨fun q => ⟨fun q2 => ?_, fun q2 => k36 (fun z => q2 z.2)⟩, fun q => k36 (fun z => q z.1)⟩⟩
      exact k37 1 (by rw [decide_eq_true ⟨q, q2⟩]; rfl)
  apply h0
  simp only [B_X7_waiting_0, o_ic, o_is, lset_2, lset_3, cats_nil, cats_cons, rf_s, rf_n, isR_r, isR_n, isR_rf, cat_i, cat_l, cat_r, cat_n, cat_rf, unl_i, unl_l, unl_r, unl_n, unl_j, unl_rf, orf_r, orf_n, orf_rf, rf_null, mA_pm, mL_pm, mP_pm, List.length_cons, List.length_nil, List.cons_append, List.nil_append, Nat.reduceAdd, Nat.reduceLeDiff, Nat.reduceLT, Nat.reduceEqDiff, Nat.zero_add, Nat.add_zero, Nat.le_refl, Nat.zero_le, true_and, and_true, true_or, or_true, false_or, or_false, reduceIte]
  exact loop nA 0 (by omega)
/-- AGES: their sum, the greatest -/
def ageF (M : MD) (g : Bool) : Nat → Int32
  | 0 => 0
  | k + 1 => if M.1 31 k = -1 then ageF M g k else if g = true then (if ageF M g k < M.1 31 k - M.1 29 k then M.1 31 k - M.1 29 k else ageF M g k) else ageF M g k + (M.1 31 k - M.1 29 k)
theorem sp_ages (hs : SKM c) {nA : Nat} (hA : M.1 7 8 = nI nA) (hA2 : nA ≤ 150) (g : Bool) (H : Q [.int (ageF M g nA)] (pm c M)) : K_X7_ages l D (d + 1) [.ref (ob 7 0), .int (if g = true then 1 else 0)] (pm c M) Q := by
  refine m_X7_ages (lsA := [.ref (ob 7 0), .int (if g = true then 1 else 0), jk, jk, jk]) rfl (Nat.le_of_ble_eq_true rfl) ?_
  intro X h0 h4 h25 h53 h57 h58 h64
  have loop : ∀ n k v, k + n = nA → X 4 [.ref (ob 7 0), .int (if g = true then 1 else 0), .int (ageF M g k), .int (nI k), v] [] (pm c M) 0 0 := by
    intro n
    induction n with
    | zero =>
      intro k v hk
      apply h4
      simp only [B_X7_ages_4, o_il, o_al, o_gf, o_ic2, o_iald, o_ic, nth_3, nth_0, mV_7_8, al_7, hs.a7, rm_7, ix_7, mV_7_18, hs.p18, kd_31, ix_31, hs.l31, rm_31, wm_31, cats_nil, cats_cons, rf_s, rf_n, isR_r, isR_n, isR_rf, cat_i, cat_l, cat_r, cat_n, cat_rf, unl_i, unl_l, unl_r, unl_n, unl_j, unl_rf, orf_r, orf_n, orf_rf, rf_null, mA_pm, mL_pm, mP_pm, List.length_cons, List.length_nil, List.cons_append, List.nil_append, Nat.reduceAdd, Nat.reduceLeDiff, Nat.reduceLT, Nat.reduceEqDiff, Nat.zero_add, Nat.add_zero, Nat.le_refl, Nat.zero_le, true_and, and_true, true_or, or_true, false_or, or_false, reduceIte, hA]
      refine ⟨fun _ => ?_, fun q => absurd (nI_le (by omega) (by omega)) q⟩
      apply h64
      simp only [B_X7_ages_64, o_il, o_iret, nth_2, cats_nil, cats_cons, rf_s, rf_n, isR_r, isR_n, isR_rf, cat_i, cat_l, cat_r, cat_n, cat_rf, unl_i, unl_l, unl_r, unl_n, unl_j, unl_rf, orf_r, orf_n, orf_rf, rf_null, mA_pm, mL_pm, mP_pm, List.length_cons, List.length_nil, List.cons_append, List.nil_append, Nat.reduceAdd, Nat.reduceLeDiff, Nat.reduceLT, Nat.reduceEqDiff, Nat.zero_add, Nat.add_zero, Nat.le_refl, Nat.zero_le, true_and, and_true, true_or, or_true, false_or, or_false, reduceIte]
      rw [show k = nA by omega]
      exact H
    | succ n ih =>
      intro k v hk
      have hk2 : k < 150 := by omega
      have k58 : ∀ (y : Int32) (w : Value), y = ageF M g (k + 1) → X 58 [.ref (ob 7 0), .int (if g = true then 1 else 0), .int y, .int (nI k), w] [] (pm c M) 0 0 := by
        intro y w hy
        apply h58
        simp only [B_X7_ages_58, o_inc, nth_3, lset_3, cats_nil, cats_cons, rf_s, rf_n, isR_r, isR_n, isR_rf, cat_i, cat_l, cat_r, cat_n, cat_rf, unl_i, unl_l, unl_r, unl_n, unl_j, unl_rf, orf_r, orf_n, orf_rf, rf_null, mA_pm, mL_pm, mP_pm, List.length_cons, List.length_nil, List.cons_append, List.nil_append, Nat.reduceAdd, Nat.reduceLeDiff, Nat.reduceLT, Nat.reduceEqDiff, Nat.zero_add, Nat.add_zero, Nat.le_refl, Nat.zero_le, true_and, and_true, true_or, or_true, false_or, or_false, reduceIte, nI_1]
        rw [hy]
        exact ih (k + 1) w (by omega)
      apply h4
      simp only [B_X7_ages_4, o_il, o_al, o_gf, o_ic2, o_iald, o_ic, nth_3, nth_0, mV_7_8, al_7, hs.a7, rm_7, ix_7, mV_7_18, hs.p18, kd_31, ix_31, hs.l31, rm_31, wm_31, cats_nil, cats_cons, rf_s, rf_n, isR_r, isR_n, isR_rf, cat_i, cat_l, cat_r, cat_n, cat_rf, unl_i, unl_l, unl_r, unl_n, unl_j, unl_rf, orf_r, orf_n, orf_rf, rf_null, mA_pm, mL_pm, mP_pm, List.length_cons, List.length_nil, List.cons_append, List.nil_append, Nat.reduceAdd, Nat.reduceLeDiff, Nat.reduceLT, Nat.reduceEqDiff, Nat.zero_add, Nat.add_zero, Nat.le_refl, Nat.zero_le, true_and, and_true, true_or, or_true, false_or, or_false, reduceIte, hA, vin hk2, ncl hk2]
      refine ⟨fun q => absurd q (by rw [nI_le_iff]; omega), fun _ => ⟨fun q => ?_, fun q => ?_⟩⟩
      · exact k58 _ _ (by rw [ageF, if_pos q])
      · apply h25
        simp only [B_X7_ages_25, o_al, o_gf, o_il, o_iald, o_ii, o_is, o_if, o_m2, nth_0, nth_3, lset_4, nth_1, nth_2, nth_4, mV_7_18, al_7, hs.a7, hs.p18, kd_31, ix_31, hs.l31, rm_31, wm_31, ix_7, mV_7_16, hs.p16, kd_29, ix_29, hs.l29, rm_29, wm_29, cats_nil, cats_cons, rf_s, rf_n, isR_r, isR_n, isR_rf, cat_i, cat_l, cat_r, cat_n, cat_rf, unl_i, unl_l, unl_r, unl_n, unl_j, unl_rf, orf_r, orf_n, orf_rf, rf_null, mA_pm, mL_pm, mP_pm, List.length_cons, List.length_nil, List.cons_append, List.nil_append, Nat.reduceAdd, Nat.reduceLeDiff, Nat.reduceLT, Nat.reduceEqDiff, Nat.zero_add, Nat.add_zero, Nat.le_refl, Nat.zero_le, true_and, and_true, true_or, or_true, false_or, or_false, reduceIte, vin hk2, ncl hk2]
        refine ⟨fun z => ?_, fun z => ?_⟩
        · apply h53
          simp only [B_X7_ages_53, o_il, o_ii, nth_2, nth_4, cats_nil, cats_cons, rf_s, rf_n, isR_r, isR_n, isR_rf, cat_i, cat_l, cat_r, cat_n, cat_rf, unl_i, unl_l, unl_r, unl_n, unl_j, unl_rf, orf_r, orf_n, orf_rf, rf_null, mA_pm, mL_pm, mP_pm, List.length_cons, List.length_nil, List.cons_append, List.nil_append, Nat.reduceAdd, Nat.reduceLeDiff, Nat.reduceLT, Nat.reduceEqDiff, Nat.zero_add, Nat.add_zero, Nat.le_refl, Nat.zero_le, true_and, and_true, true_or, or_true, false_or, or_false, reduceIte]
          apply h57
          simp only [B_X7_ages_57, o_is, lset_2, cats_nil, cats_cons, rf_s, rf_n, isR_r, isR_n, isR_rf, cat_i, cat_l, cat_r, cat_n, cat_rf, unl_i, unl_l, unl_r, unl_n, unl_j, unl_rf, orf_r, orf_n, orf_rf, rf_null, mA_pm, mL_pm, mP_pm, List.length_cons, List.length_nil, List.cons_append, List.nil_append, Nat.reduceAdd, Nat.reduceLeDiff, Nat.reduceLT, Nat.reduceEqDiff, Nat.zero_add, Nat.add_zero, Nat.le_refl, Nat.zero_le, true_and, and_true, true_or, or_true, false_or, or_false, reduceIte]
          exact k58 _ _ (by rw [ageF, if_neg q, if_neg (fun y => by rw [if_pos y] at z; exact absurd z (by decide))])
        · apply h57
          simp only [B_X7_ages_57, o_is, lset_2, cats_nil, cats_cons, rf_s, rf_n, isR_r, isR_n, isR_rf, cat_i, cat_l, cat_r, cat_n, cat_rf, unl_i, unl_l, unl_r, unl_n, unl_j, unl_rf, orf_r, orf_n, orf_rf, rf_null, mA_pm, mL_pm, mP_pm, List.length_cons, List.length_nil, List.cons_append, List.nil_append, Nat.reduceAdd, Nat.reduceLeDiff, Nat.reduceLT, Nat.reduceEqDiff, Nat.zero_add, Nat.add_zero, Nat.le_refl, Nat.zero_le, true_and, and_true, true_or, or_true, false_or, or_false, reduceIte]
          have hg : g = true := by
            cases g with
            | true => rfl
            | false => exact absurd rfl z
          exact k58 _ _ (by rw [ageF, if_neg q, if_pos hg])
  apply h0
  simp only [B_X7_ages_0, o_ic, o_is, lset_2, lset_3, cats_nil, cats_cons, rf_s, rf_n, isR_r, isR_n, isR_rf, cat_i, cat_l, cat_r, cat_n, cat_rf, unl_i, unl_l, unl_r, unl_n, unl_j, unl_rf, orf_r, orf_n, orf_rf, rf_null, mA_pm, mL_pm, mP_pm, List.length_cons, List.length_nil, List.cons_append, List.nil_append, Nat.reduceAdd, Nat.reduceLeDiff, Nat.reduceLT, Nat.reduceEqDiff, Nat.zero_add, Nat.add_zero, Nat.le_refl, Nat.zero_le, true_and, and_true, true_or, or_true, false_or, or_false, reduceIte]
  exact loop nA 0 _ (by omega)
/-- WORTH -/
def worT (M : MD) (t : Int32) (k : Nat) : Int32 := if M.1 26 k = t ∧ M.1 30 k = 0 ∧ ¬ M.1 25 k = 3 then M.1 7 9 - M.1 29 k + (if M.1 25 k = 4 then 100 else 10) else 0
def farF (a b : Int32) : Int32 := if a ≤ b then b - a else a - b
def worF (M : MD) (t : Nat) (at_ : Int32) (nA : Nat) : Int32 := (-2) * farF (M.1 20 t) at_ + sm (worT M (nI t)) nA
theorem sp_worth (hs : SKM c) {nA : Nat} (hA : M.1 7 8 = nI nA) (hA2 : nA ≤ 150) {t : Nat} (ht : t < 12) (y : Int32) (H : Q [.int (worF M t y nA)] (pm c M)) : K_X7_worth l D (d + 1) [.ref (ob 7 0), .int (nI t), .int y] (pm c M) Q := by
  refine m_X7_worth (lsA := [.ref (ob 7 0), .int (nI t), .int y, jk, jk, jk]) rfl (Nat.le_of_ble_eq_true rfl) ?_
  intro X h0 h21 h29 h39 h110 h112 h116 h122
  have loop : ∀ n k, k + n = nA → X 39 [.ref (ob 7 0), .int (nI t), .int y, .int (farF (M.1 20 t) y), .int (worF M t y k), .int (nI k)] [] (pm c M) 0 0 := by
    intro n
    induction n with
    | zero =>
      intro k hk
      apply h39
      simp only [B_X7_worth_39, o_il, o_al, o_gf, o_ic2, o_iald, o_if, o_ic, o_ii, nth_5, nth_0, nth_1, nth_4, mV_7_8, al_7, hs.a7, rm_7, ix_7, mV_7_13, hs.p13, kd_26, ix_26, hs.l26, rm_26, wm_26, mV_7_17, hs.p17, kd_30, ix_30, hs.l30, rm_30, wm_30, mV_7_12, hs.p12, kd_25, ix_25, hs.l25, rm_25, wm_25, mV_7_9, mV_7_16, hs.p16, kd_29, ix_29, hs.l29, rm_29, wm_29, cats_nil, cats_cons, rf_s, rf_n, isR_r, isR_n, isR_rf, cat_i, cat_l, cat_r, cat_n, cat_rf, unl_i, unl_l, unl_r, unl_n, unl_j, unl_rf, orf_r, orf_n, orf_rf, rf_null, mA_pm, mL_pm, mP_pm, List.length_cons, List.length_nil, List.cons_append, List.nil_append, Nat.reduceAdd, Nat.reduceLeDiff, Nat.reduceLT, Nat.reduceEqDiff, Nat.zero_add, Nat.add_zero, Nat.le_refl, Nat.zero_le, true_and, and_true, true_or, or_true, false_or, or_false, reduceIte, hA]
      refine ⟨fun _ => ?_, fun q => absurd (nI_le (by omega) (by omega)) q⟩
      apply h122
      simp only [B_X7_worth_122, o_il, o_iret, nth_4, cats_nil, cats_cons, rf_s, rf_n, isR_r, isR_n, isR_rf, cat_i, cat_l, cat_r, cat_n, cat_rf, unl_i, unl_l, unl_r, unl_n, unl_j, unl_rf, orf_r, orf_n, orf_rf, rf_null, mA_pm, mL_pm, mP_pm, List.length_cons, List.length_nil, List.cons_append, List.nil_append, Nat.reduceAdd, Nat.reduceLeDiff, Nat.reduceLT, Nat.reduceEqDiff, Nat.zero_add, Nat.add_zero, Nat.le_refl, Nat.zero_le, true_and, and_true, true_or, or_true, false_or, or_false, reduceIte]
      rw [show k = nA by omega]
      exact H
    | succ n ih =>
      intro k hk
      have hk2 : k < 150 := by omega
      have k116 : ∀ (z : Int32), z = worF M t y (k + 1) → X 116 [.ref (ob 7 0), .int (nI t), .int y, .int (farF (M.1 20 t) y), .int z, .int (nI k)] [] (pm c M) 0 0 := by
        intro z hz
        apply h116
        simp only [B_X7_worth_116, o_inc, nth_5, lset_5, cats_nil, cats_cons, rf_s, rf_n, isR_r, isR_n, isR_rf, cat_i, cat_l, cat_r, cat_n, cat_rf, unl_i, unl_l, unl_r, unl_n, unl_j, unl_rf, orf_r, orf_n, orf_rf, rf_null, mA_pm, mL_pm, mP_pm, List.length_cons, List.length_nil, List.cons_append, List.nil_append, Nat.reduceAdd, Nat.reduceLeDiff, Nat.reduceLT, Nat.reduceEqDiff, Nat.zero_add, Nat.add_zero, Nat.le_refl, Nat.zero_le, true_and, and_true, true_or, or_true, false_or, or_false, reduceIte, nI_1]
        rw [hz]
        exact ih (k + 1) (by omega)
      have e0 : ¬ (M.1 26 k = nI t ∧ M.1 30 k = 0 ∧ ¬ M.1 25 k = 3) → worF M t y k = worF M t y (k + 1) := by
        intro q
        show (-2) * farF (M.1 20 t) y + sm (worT M (nI t)) k = (-2) * farF (M.1 20 t) y + (sm (worT M (nI t)) k + worT M (nI t) k)
        rw [show worT M (nI t) k = 0 from if_neg q, Int32.add_zero]
      have k112 : ∀ (z : Int32), M.1 26 k = nI t ∧ M.1 30 k = 0 ∧ ¬ M.1 25 k = 3 → z = (if M.1 25 k = 4 then 100 else 10) → X 112 [.ref (ob 7 0), .int (nI t), .int y, .int (farF (M.1 20 t) y), .int (worF M t y k), .int (nI k)] [.int z, .int (M.1 7 9 - M.1 29 k), .int (worF M t y k)] (pm c M) 0 0 := by
        intro z q hz
        apply h112
        simp only [B_X7_worth_112, o_ii, o_is, lset_4, cats_nil, cats_cons, rf_s, rf_n, isR_r, isR_n, isR_rf, cat_i, cat_l, cat_r, cat_n, cat_rf, unl_i, unl_l, unl_r, unl_n, unl_j, unl_rf, orf_r, orf_n, orf_rf, rf_null, mA_pm, mL_pm, mP_pm, List.length_cons, List.length_nil, List.cons_append, List.nil_append, Nat.reduceAdd, Nat.reduceLeDiff, Nat.reduceLT, Nat.reduceEqDiff, Nat.zero_add, Nat.add_zero, Nat.le_refl, Nat.zero_le, true_and, and_true, true_or, or_true, false_or, or_false, reduceIte]
        refine k116 _ ?_
        rw [hz]
        unfold worF
        rw [sm, worT, if_pos q, Int32.add_assoc]
      apply h39
      simp only [B_X7_worth_39, o_il, o_al, o_gf, o_ic2, o_iald, o_if, o_ic, o_ii, nth_5, nth_0, nth_1, nth_4, mV_7_8, al_7, hs.a7, rm_7, ix_7, mV_7_13, hs.p13, kd_26, ix_26, hs.l26, rm_26, wm_26, mV_7_17, hs.p17, kd_30, ix_30, hs.l30, rm_30, wm_30, mV_7_12, hs.p12, kd_25, ix_25, hs.l25, rm_25, wm_25, mV_7_9, mV_7_16, hs.p16, kd_29, ix_29, hs.l29, rm_29, wm_29, cats_nil, cats_cons, rf_s, rf_n, isR_r, isR_n, isR_rf, cat_i, cat_l, cat_r, cat_n, cat_rf, unl_i, unl_l, unl_r, unl_n, unl_j, unl_rf, orf_r, orf_n, orf_rf, rf_null, mA_pm, mL_pm, mP_pm, List.length_cons, List.length_nil, List.cons_append, List.nil_append, Nat.reduceAdd, Nat.reduceLeDiff, Nat.reduceLT, Nat.reduceEqDiff, Nat.zero_add, Nat.add_zero, Nat.le_refl, Nat.zero_le, true_and, and_true, true_or, or_true, false_or, or_false, reduceIte, hA, vin hk2, ncl hk2]
      refine ⟨fun q => absurd q (by rw [nI_le_iff]; omega), fun _ => ⟨fun q => ⟨fun q2 => ⟨fun q3 => k116 _ (e0 (fun z => z.2.2 q3)), fun q3 => ⟨fun q4 => k112 _ ⟨q, q2, q3⟩ (by rw [if_pos q4]), fun q4 => ?_⟩⟩, fun q2 => k116 _ (e0 (fun z => q2 z.2.1))⟩, fun q => k116 _ (e0 (fun z => q z.1))⟩⟩
      apply h110
      simp only [B_X7_worth_110, o_ic, cats_nil, cats_cons, rf_s, rf_n, isR_r, isR_n, isR_rf, cat_i, cat_l, cat_r, cat_n, cat_rf, unl_i, unl_l, unl_r, unl_n, unl_j, unl_rf, orf_r, orf_n, orf_rf, rf_null, mA_pm, mL_pm, mP_pm, List.length_cons, List.length_nil, List.cons_append, List.nil_append, Nat.reduceAdd, Nat.reduceLeDiff, Nat.reduceLT, Nat.reduceEqDiff, Nat.zero_add, Nat.add_zero, Nat.le_refl, Nat.zero_le, true_and, and_true, true_or, or_true, false_or, or_false, reduceIte]
      exact k112 _ ⟨q, q2, q3⟩ (by rw [if_neg q4])
  have k29 : ∀ z : Int32, z = farF (M.1 20 t) y → X 29 [.ref (ob 7 0), .int (nI t), .int y, jk, jk, jk] [.int z] (pm c M) 0 0 := by
    intro z hz
    apply h29
    simp only [B_X7_worth_29, o_is, o_ic, o_il, o_ii, lset_3, nth_3, lset_4, lset_5, cats_nil, cats_cons, rf_s, rf_n, isR_r, isR_n, isR_rf, cat_i, cat_l, cat_r, cat_n, cat_rf, unl_i, unl_l, unl_r, unl_n, unl_j, unl_rf, orf_r, orf_n, orf_rf, rf_null, mA_pm, mL_pm, mP_pm, List.length_cons, List.length_nil, List.cons_append, List.nil_append, Nat.reduceAdd, Nat.reduceLeDiff, Nat.reduceLT, Nat.reduceEqDiff, Nat.zero_add, Nat.add_zero, Nat.le_refl, Nat.zero_le, true_and, and_true, true_or, or_true, false_or, or_false, reduceIte]
    rw [hz]
    have := loop nA 0 (by omega)
    unfold worF sm at this
    rw [Int32.add_zero] at this
    exact this
  apply h0
  simp only [B_X7_worth_0, o_al, o_gf, o_il, o_iald, o_ic2, o_ii, nth_0, nth_1, nth_2, mV_7_2, al_7, hs.a7, hs.p2, kd_20, ix_20, hs.l20, rm_20, wm_20, ix_7, cats_nil, cats_cons, rf_s, rf_n, isR_r, isR_n, isR_rf, cat_i, cat_l, cat_r, cat_n, cat_rf, unl_i, unl_l, unl_r, unl_n, unl_j, unl_rf, orf_r, orf_n, orf_rf, rf_null, mA_pm, mL_pm, mP_pm, List.length_cons, List.length_nil, List.cons_append, List.nil_append, Nat.reduceAdd, Nat.reduceLeDiff, Nat.reduceLT, Nat.reduceEqDiff, Nat.zero_add, Nat.add_zero, Nat.le_refl, Nat.zero_le, true_and, and_true, true_or, or_true, false_or, or_false, reduceIte, vin ht, ncl ht]
  refine ⟨fun q => ?_, fun q => k29 _ (by rw [farF, if_neg q])⟩
  apply h21
  simp only [B_X7_worth_21, o_il, o_al, o_gf, o_iald, o_ii, nth_2, nth_0, nth_1, mV_7_2, al_7, hs.a7, hs.p2, kd_20, ix_20, hs.l20, rm_20, wm_20, ix_7, cats_nil, cats_cons, rf_s, rf_n, isR_r, isR_n, isR_rf, cat_i, cat_l, cat_r, cat_n, cat_rf, unl_i, unl_l, unl_r, unl_n, unl_j, unl_rf, orf_r, orf_n, orf_rf, rf_null, mA_pm, mL_pm, mP_pm, List.length_cons, List.length_nil, List.cons_append, List.nil_append, Nat.reduceAdd, Nat.reduceLeDiff, Nat.reduceLT, Nat.reduceEqDiff, Nat.zero_add, Nat.add_zero, Nat.le_refl, Nat.zero_le, true_and, and_true, true_or, or_true, false_or, or_false, reduceIte, vin ht, ncl ht]
  exact k29 _ (by rw [farF, if_pos q])
/-- plain answers -/
theorem sp_settings (hs : SKM c) (t b : Int32) (H : ∀ r M', (r = 1 ∧ ((-1000 ≤ t ∧ t ≤ 10000) ∧ 0 ≤ b ∧ b ≤ 10000) ∧ SC (uI (uI M 7 10 t) 7 11 b) M' ∨ r = 0 ∧ ¬ ((-1000 ≤ t ∧ t ≤ 10000) ∧ 0 ≤ b ∧ b ≤ 10000) ∧ SC M M') → Q [.int r] (pm c M')) : K_X7_settings l D (d + 2) [.ref (ob 7 0), .int t, .int b] (pm c M) Q := by
  refine m_X7_settings (lsA := [.ref (ob 7 0), .int t, .int b]) rfl (Nat.le_of_ble_eq_true rfl) ?_
  intro X h0 h29 h31
  have k29 : ∀ ls, ¬ ((-1000 ≤ t ∧ t ≤ 10000) ∧ 0 ≤ b ∧ b ≤ 10000) → X 29 ls [] (pm c (uI M 7 0 0)) 0 0 := by
    intro ls q
    apply h29
    simp only [B_X7_settings_29, o_ic, o_zret, cats_nil, cats_cons, rf_s, rf_n, isR_r, isR_n, isR_rf, cat_i, cat_l, cat_r, cat_n, cat_rf, unl_i, unl_l, unl_r, unl_n, unl_j, unl_rf, orf_r, orf_n, orf_rf, rf_null, mA_pm, mL_pm, mP_pm, List.length_cons, List.length_nil, List.cons_append, List.nil_append, Nat.reduceAdd, Nat.reduceLeDiff, Nat.reduceLT, Nat.reduceEqDiff, Nat.zero_add, Nat.add_zero, Nat.le_refl, Nat.zero_le, true_and, and_true, true_or, or_true, false_or, or_false, reduceIte]
    exact H 0 _ (Or.inr ⟨rfl, q, (SC.rf M).w 0 rfl⟩)
  apply h0
  simp only [B_X7_settings_0, o_al, o_ic, o_pI, o_il, o_if, nth_0, nth_1, nth_2, opS_3, al_7, ix_7, hs.a7, wm_7, wmJ_7, cats_nil, cats_cons, rf_s, rf_n, isR_r, isR_n, isR_rf, cat_i, cat_l, cat_r, cat_n, cat_rf, unl_i, unl_l, unl_r, unl_n, unl_j, unl_rf, orf_r, orf_n, orf_rf, rf_null, mA_pm, mL_pm, mP_pm, List.length_cons, List.length_nil, List.cons_append, List.nil_append, Nat.reduceAdd, Nat.reduceLeDiff, Nat.reduceLT, Nat.reduceEqDiff, Nat.zero_add, Nat.add_zero, Nat.le_refl, Nat.zero_le, true_and, and_true, true_or, or_true, false_or, or_false, reduceIte]
  refine sp_within _ _ _ _ ?_
  simp only [cats_nil, cats_cons, List.cons_append, List.nil_append, o_if, o_il, o_ic, nth_2, opS_3, List.length_nil, Nat.zero_le, Nat.le_refl, Nat.add_zero, true_and]
  refine ⟨fun q => k29 _ (fun z => by rw [bi_t z.1] at q; exact absurd q (by decide)), fun q => ?_⟩
  refine sp_within _ _ _ _ ?_
  simp only [cats_nil, cats_cons, List.cons_append, List.nil_append, o_if]
  refine ⟨fun q2 => k29 _ (fun z => by rw [bi_t z.2] at q2; exact absurd q2 (by decide)), fun q2 => ?_⟩
  apply h31
  simp only [B_X7_settings_31, o_al, o_il, o_pI, o_ic, o_zret, nth_0, nth_1, nth_2, al_7, ix_7, hs.a7, wm_7, wmJ_7, cats_nil, cats_cons, rf_s, rf_n, isR_r, isR_n, isR_rf, cat_i, cat_l, cat_r, cat_n, cat_rf, unl_i, unl_l, unl_r, unl_n, unl_j, unl_rf, orf_r, orf_n, orf_rf, rf_null, mA_pm, mL_pm, mP_pm, List.length_cons, List.length_nil, List.cons_append, List.nil_append, Nat.reduceAdd, Nat.reduceLeDiff, Nat.reduceLT, Nat.reduceEqDiff, Nat.zero_add, Nat.add_zero, Nat.le_refl, Nat.zero_le, true_and, and_true, true_or, or_true, false_or, or_false, reduceIte]
  have g1 : -1000 ≤ t ∧ t ≤ 10000 := Decidable.byContradiction fun z => q (bi_f z)
  have g2 : 0 ≤ b ∧ b ≤ 10000 := Decidable.byContradiction fun z => q2 (bi_f z)
  exact H 1 _ (Or.inl ⟨rfl, ⟨g1, g2⟩, (((SC.rf M).w 0 rfl).u 7 10 t).u 7 11 b⟩)
theorem sp_clear (hs : SKM c) (H : ∀ M', SC (uI M 7 42 0) M' → Q [.int (M.1 7 42)] (pm c M')) : K_X7_clear l D (d + 1) [.ref (ob 7 0)] (pm c M) Q := by
  refine m_X7_clear (lsA := [.ref (ob 7 0), jk]) rfl (Nat.le_of_ble_eq_true rfl) ?_
  intro X h0
  repeat' (first | (apply h0; simp only [B_X7_clear_0, o_al, o_ic, o_pI, o_gf, o_is, o_il, o_iret, nth_0, lset_1, nth_1, mV_7_42, al_7, hs.a7, rm_7, ix_7, wm_7, wmJ_7, cats_nil, cats_cons, rf_s, rf_n, isR_r, isR_n, isR_rf, cat_i, cat_l, cat_r, cat_n, cat_rf, unl_i, unl_l, unl_r, unl_n, unl_j, unl_rf, orf_r, orf_n, orf_rf, rf_null, mA_pm, mL_pm, mP_pm, List.length_cons, List.length_nil, List.cons_append, List.nil_append, Nat.reduceAdd, Nat.reduceLeDiff, Nat.reduceLT, Nat.reduceEqDiff, Nat.zero_add, Nat.add_zero, Nat.le_refl, Nat.zero_le, true_and, and_true, true_or, or_true, false_or, or_false, reduceIte, uI_1]) | (apply br_c <;> intro q))
  exact H _ (((SC.rf M).w 0 rfl).u 7 42 0)
theorem sp_mends (hs : SKM c) {nR : Nat} (hR : M.1 7 26 = nI nR) (hR2 : nR ≤ 3) (x : Int32) (H : ∀ r M', (∃ k, k < nR ∧ x = nI k ∧ M.1 36 k = 4 ∧ r = 1 ∧ SC (uI M 36 k (if M.1 37 k = -1 then 0 else 3)) M') ∨ ((∀ k, k < nR → x = nI k → ¬ M.1 36 k = 4) ∧ r = 0 ∧ SC M M') → Q [.int r] (pm c M')) : K_X7_mends l D (d + 3) [.ref (ob 7 0), .int x] (pm c M) Q := by
  refine m_X7_mends (lsA := [.ref (ob 7 0), .int x]) rfl (Nat.le_of_ble_eq_true rfl) ?_
  intro X h0 h23 h25 h44 h45
  have k23 : ∀ ls, (∀ k, k < nR → x = nI k → ¬ M.1 36 k = 4) → X 23 ls [] (pm c (uI M 7 0 0)) 0 0 := by
    intro ls q
    apply h23
    simp only [B_X7_mends_23, o_ic, o_zret, cats_nil, cats_cons, rf_s, rf_n, isR_r, isR_n, isR_rf, cat_i, cat_l, cat_r, cat_n, cat_rf, unl_i, unl_l, unl_r, unl_n, unl_j, unl_rf, orf_r, orf_n, orf_rf, rf_null, mA_pm, mL_pm, mP_pm, List.length_cons, List.length_nil, List.cons_append, List.nil_append, Nat.reduceAdd, Nat.reduceLeDiff, Nat.reduceLT, Nat.reduceEqDiff, Nat.zero_add, Nat.add_zero, Nat.le_refl, Nat.zero_le, true_and, and_true, true_or, or_true, false_or, or_false, reduceIte]
    exact H 0 _ (Or.inr ⟨q, rfl, (SC.rf M).w 0 rfl⟩)
  apply h0
  simp only [B_X7_mends_0, o_al, o_ic, o_pI, o_il, o_if, o_gf, o_iald, o_ic2, nth_0, nth_1, opV_1, mV_7_28, al_7, hs.a7, hs.p28, kd_36, ix_36, hs.l36, rm_36, wm_36, ix_7, wm_7, wmJ_7, cats_nil, cats_cons, rf_s, rf_n, isR_r, isR_n, isR_rf, cat_i, cat_l, cat_r, cat_n, cat_rf, unl_i, unl_l, unl_r, unl_n, unl_j, unl_rf, orf_r, orf_n, orf_rf, rf_null, mA_pm, mL_pm, mP_pm, List.length_cons, List.length_nil, List.cons_append, List.nil_append, Nat.reduceAdd, Nat.reduceLeDiff, Nat.reduceLT, Nat.reduceEqDiff, Nat.zero_add, Nat.add_zero, Nat.le_refl, Nat.zero_le, true_and, and_true, true_or, or_true, false_or, or_false, reduceIte]
  refine sp_isReader hs _ ?_
  simp only [cats_nil, cats_cons, List.cons_append, List.nil_append, o_if, uI_1, reduceIte, and_false, Nat.reduceEqDiff, hR]
  refine ⟨fun q => k23 _ (fun k hk hx => ?_), fun q => ?_⟩
  · rw [bi_t (by rw [hx]; exact in_nI' hk (by omega))] at q
    exact absurd q (by decide)
  · obtain ⟨k, hk, rfl⟩ := in_nI (by omega) (Decidable.byContradiction fun z => q (bi_f z))
    have hk3 : k < 3 := by omega
    simp only [cats_nil, cats_cons, o_al, nth_0, isR_r, o_gf, al_7, mA_pm, hs.a7, mV_7_28, mP_pm, ix_7, hs.p28, rf_s, o_il, nth_1, o_iald, kd_36, ix_36, Nat.reduceLeDiff, Nat.reduceLT, mL_pm, hs.l36, vin hk3, ncl hk3, true_and, and_true, true_or, rm_36, o_ic, o_ic2, uI_1, Nat.reduceEqDiff, false_and, reduceIte]
    refine ⟨fun q2 => ?_, fun q2 => k23 _ (fun k' hk' hx => ?_)⟩
    · have k45 : ∀ y : Int32, y = (if M.1 37 k = -1 then 0 else 3) → X 45 [.ref (ob 7 0), .int (nI k)] [.int y, .int (nI k), .ref (ob 36 0)] (pm c (uI M 7 0 0)) 0 0 := by
        intro y hy
        apply h45
        simp only [B_X7_mends_45, o_iast, o_ic, o_zret, cats_nil, cats_cons, rf_s, rf_n, isR_r, isR_n, isR_rf, cat_i, cat_l, cat_r, cat_n, cat_rf, unl_i, unl_l, unl_r, unl_n, unl_j, unl_rf, orf_r, orf_n, orf_rf, rf_null, mA_pm, mL_pm, mP_pm, List.length_cons, List.length_nil, List.cons_append, List.nil_append, Nat.reduceAdd, Nat.reduceLeDiff, Nat.reduceLT, Nat.reduceEqDiff, Nat.zero_add, Nat.add_zero, Nat.le_refl, Nat.zero_le, true_and, and_true, true_or, or_true, false_or, or_false, reduceIte, kd_36, ix_36, hs.l36, vin hk3, ncl hk3, wm_36]
        exact H 1 _ (Or.inl ⟨k, hk, rfl, q2, rfl, by rw [← hy]; exact ((SC.rf M).w 0 rfl).u 36 k y⟩)
      apply h25
      simp only [B_X7_mends_25, o_al, o_gf, o_il, o_iald, o_ic, o_ic2, nth_0, nth_1, mV_7_28, al_7, hs.a7, hs.p28, kd_36, ix_36, hs.l36, rm_36, wm_36, ix_7, mV_7_29, hs.p29, kd_37, ix_37, hs.l37, rm_37, wm_37, cats_nil, cats_cons, rf_s, rf_n, isR_r, isR_n, isR_rf, cat_i, cat_l, cat_r, cat_n, cat_rf, unl_i, unl_l, unl_r, unl_n, unl_j, unl_rf, orf_r, orf_n, orf_rf, rf_null, mA_pm, mL_pm, mP_pm, List.length_cons, List.length_nil, List.cons_append, List.nil_append, Nat.reduceAdd, Nat.reduceLeDiff, Nat.reduceLT, Nat.reduceEqDiff, Nat.zero_add, Nat.add_zero, Nat.le_refl, Nat.zero_le, true_and, and_true, true_or, or_true, false_or, or_false, reduceIte, vin hk3, ncl hk3, uI_1, Nat.reduceEqDiff, false_and]
      refine ⟨fun z => k45 0 (by rw [if_pos z]), fun z => ?_⟩
      apply h44
      simp only [B_X7_mends_44, o_ic, cats_nil, cats_cons, rf_s, rf_n, isR_r, isR_n, isR_rf, cat_i, cat_l, cat_r, cat_n, cat_rf, unl_i, unl_l, unl_r, unl_n, unl_j, unl_rf, orf_r, orf_n, orf_rf, rf_null, mA_pm, mL_pm, mP_pm, List.length_cons, List.length_nil, List.cons_append, List.nil_append, Nat.reduceAdd, Nat.reduceLeDiff, Nat.reduceLT, Nat.reduceEqDiff, Nat.zero_add, Nat.add_zero, Nat.le_refl, Nat.zero_le, true_and, and_true, true_or, or_true, false_or, or_false, reduceIte]
      exact k45 3 (by rw [if_neg z])
    · rw [nI_eq_iff] at hx
      rw [← hx]
      exact q2
theorem sp_item (hs : SKM c) {ni : Nat} (hi : M.1 7 42 = nI ni) (hi2 : ni ≤ 8) (x y : Int32) (H : ∀ r M', (((1 ≤ x ∧ x ≤ 50) ∧ (0 ≤ y ∧ y ≤ 1000) ∧ ni < 8) ∧ r = nI ni ∧ SC (uI (uI (uI M 47 ni x) 48 ni y) 7 42 (nI (ni + 1))) M') ∨ (¬ ((1 ≤ x ∧ x ≤ 50) ∧ (0 ≤ y ∧ y ≤ 1000) ∧ ni < 8) ∧ r = -1 ∧ SC M M') → Q [.int r] (pm c M')) : K_X7_item l D (d + 2) [.ref (ob 7 0), .int x, .int y] (pm c M) Q := by
  refine m_X7_item (lsA := [.ref (ob 7 0), .int x, .int y]) rfl (Nat.le_of_ble_eq_true rfl) ?_
  intro X h0 h35 h37
  have k35 : ∀ ls, ¬ ((1 ≤ x ∧ x ≤ 50) ∧ (0 ≤ y ∧ y ≤ 1000) ∧ ni < 8) → X 35 ls [] (pm c (uI M 7 0 0)) 0 0 := by
    intro ls q
    apply h35
    simp only [B_X7_item_35, o_ic, o_iret, cats_nil, cats_cons, rf_s, rf_n, isR_r, isR_n, isR_rf, cat_i, cat_l, cat_r, cat_n, cat_rf, unl_i, unl_l, unl_r, unl_n, unl_j, unl_rf, orf_r, orf_n, orf_rf, rf_null, mA_pm, mL_pm, mP_pm, List.length_cons, List.length_nil, List.cons_append, List.nil_append, Nat.reduceAdd, Nat.reduceLeDiff, Nat.reduceLT, Nat.reduceEqDiff, Nat.zero_add, Nat.add_zero, Nat.le_refl, Nat.zero_le, true_and, and_true, true_or, or_true, false_or, or_false, reduceIte]
    exact H (-1) _ (Or.inr ⟨q, rfl, (SC.rf M).w 0 rfl⟩)
  apply h0
  simp only [B_X7_item_0, o_al, o_ic, o_pI, o_il, o_if, o_gf, o_ic2, nth_0, nth_1, nth_2, opS_3, mV_7_42, al_7, hs.a7, rm_7, ix_7, wm_7, wmJ_7, cats_nil, cats_cons, rf_s, rf_n, isR_r, isR_n, isR_rf, cat_i, cat_l, cat_r, cat_n, cat_rf, unl_i, unl_l, unl_r, unl_n, unl_j, unl_rf, orf_r, orf_n, orf_rf, rf_null, mA_pm, mL_pm, mP_pm, List.length_cons, List.length_nil, List.cons_append, List.nil_append, Nat.reduceAdd, Nat.reduceLeDiff, Nat.reduceLT, Nat.reduceEqDiff, Nat.zero_add, Nat.add_zero, Nat.le_refl, Nat.zero_le, true_and, and_true, true_or, or_true, false_or, or_false, reduceIte]
  refine sp_within _ _ _ _ ?_
  simp only [o_al, o_ic, o_pI, o_il, o_if, o_gf, o_ic2, nth_0, nth_1, nth_2, opS_3, mV_7_42, al_7, hs.a7, rm_7, ix_7, wm_7, wmJ_7, cats_nil, cats_cons, rf_s, rf_n, isR_r, isR_n, isR_rf, cat_i, cat_l, cat_r, cat_n, cat_rf, unl_i, unl_l, unl_r, unl_n, unl_j, unl_rf, orf_r, orf_n, orf_rf, rf_null, mA_pm, mL_pm, mP_pm, List.length_cons, List.length_nil, List.cons_append, List.nil_append, Nat.reduceAdd, Nat.reduceLeDiff, Nat.reduceLT, Nat.reduceEqDiff, Nat.zero_add, Nat.add_zero, Nat.le_refl, Nat.zero_le, true_and, and_true, true_or, or_true, false_or, or_false, reduceIte]
  refine ⟨fun q => k35 _ (fun z => bi_e0 q z.1), fun q => ?_⟩
  refine sp_within _ _ _ _ ?_
  simp only [o_al, o_ic, o_pI, o_il, o_if, o_gf, o_ic2, nth_0, nth_1, nth_2, opS_3, mV_7_42, al_7, hs.a7, rm_7, ix_7, wm_7, wmJ_7, cats_nil, cats_cons, rf_s, rf_n, isR_r, isR_n, isR_rf, cat_i, cat_l, cat_r, cat_n, cat_rf, unl_i, unl_l, unl_r, unl_n, unl_j, unl_rf, orf_r, orf_n, orf_rf, rf_null, mA_pm, mL_pm, mP_pm, List.length_cons, List.length_nil, List.cons_append, List.nil_append, Nat.reduceAdd, Nat.reduceLeDiff, Nat.reduceLT, Nat.reduceEqDiff, Nat.zero_add, Nat.add_zero, Nat.le_refl, Nat.zero_le, true_and, and_true, true_or, or_true, false_or, or_false, reduceIte, uI_1, hi, Nat.reduceEqDiff, and_false]
  refine ⟨fun q2 => k35 _ (fun z => bi_e0 q2 z.2.1), fun q2 => ⟨fun q3 => k35 _ (fun z => ?_), fun q3 => ?_⟩⟩
  · rw [show (8 : Int32) = nI 8 from rfl, nI_eq_iff] at q3
    omega
  · have hi8 : ni < 8 := by
      rcases Nat.lt_or_ge ni 8 with z | z
      · exact z
      · exact absurd (show nI ni = 8 by rw [show ni = 8 by omega]; rfl) q3
    apply h37
    simp only [B_X7_item_37, o_al, o_gf, o_il, o_iast, o_dup, o_ic, o_ii, o_pI, o_iret, nth_0, nth_1, nth_2, mV_7_43, al_7, hs.a7, hs.p43, kd_47, ix_47, hs.l47, rm_47, wm_47, ix_7, mV_7_42, rm_7, mV_7_44, hs.p44, kd_48, ix_48, hs.l48, rm_48, wm_48, wm_7, wmJ_7, cats_nil, cats_cons, rf_s, rf_n, isR_r, isR_n, isR_rf, cat_i, cat_l, cat_r, cat_n, cat_rf, unl_i, unl_l, unl_r, unl_n, unl_j, unl_rf, orf_r, orf_n, orf_rf, rf_null, mA_pm, mL_pm, mP_pm, List.length_cons, List.length_nil, List.cons_append, List.nil_append, Nat.reduceAdd, Nat.reduceLeDiff, Nat.reduceLT, Nat.reduceEqDiff, Nat.zero_add, Nat.add_zero, Nat.le_refl, Nat.zero_le, true_and, and_true, true_or, or_true, false_or, or_false, reduceIte, uI_1, hi, Nat.reduceEqDiff, and_false, false_and, vin hi8, ncl hi8, nI_1, nI_pred]
    exact H _ _ (Or.inl ⟨⟨bi_ne0 q, bi_ne0 q2, hi8⟩, rfl, ((((SC.rf M).w 0 rfl).u 47 ni x).u 48 ni y).u 7 42 _⟩)
end ZM1
