/-! The class: rows and what stands in them -/
def SKD (c : HP) (nT nR nA : Nat) : Prop := (∀ i, i < 12 → mP c 96 i 0 = if i < nT then some (ob 5 i) else none) ∧ (∀ i, i < 3 → mP c 97 i 0 = if i < nR then some (ob 3 i) else none) ∧ (∀ i, i < 150 → mP c 98 i 0 = if i < nA then some (ob 1 i) else none) ∧ (∀ t, t < nT → mA c 5 t = true) ∧ (∀ k, k < nR → mA c 3 k = true ∧ mP c 3 1 k = some (ob 19 k) ∧ mL c 19 k = 8) ∧ ∀ k, k < nA → mA c 1 k = true
section ZC2
variable {l : Launch} {D : DD} {d : Nat} {c : HP} {M : MD} {Q : List Value → HP → Prop}
theorem sp_within6 (x : Int32) (n : Nat) (hn : n < 2147483648) (h : HP) (H : ∀ r : Int32, (r = 1 ∧ ∃ i, i < n ∧ x = nI i) ∨ (r = 0 ∧ ∀ i, i < n → ¬ x = nI i) → Q [.int r] h) : K_X6_within l D (d + 1) [.int x, .int (nI n)] h Q := by
  refine m_X6_within (lsA := [.int x, .int (nI n)]) rfl (Nat.le_of_ble_eq_true rfl) ?_
  intro X h0 h13 h14
  have k13 : (∀ i, i < n → ¬ x = nI i) → X 13 [.int x, .int (nI n)] [] h 0 0 := by
    intro q
    apply h13
    simp only [B_X6_within_13, o_ic, cats_nil, cats_cons, rf_s, rf_n, isR_r, isR_n, isR_rf, cat_i, cat_l, cat_r, cat_n, cat_rf, unl_i, unl_l, unl_r, unl_n, unl_j, unl_rf, orf_r, orf_n, orf_rf, rf_null, mA_pm, mL_pm, mP_pm, List.length_cons, List.length_nil, List.cons_append, List.nil_append, Nat.reduceAdd, Nat.reduceLeDiff, Nat.reduceLT, Nat.reduceEqDiff, Nat.zero_add, Nat.add_zero, Nat.le_refl, Nat.zero_le, true_and, and_true, true_or, or_true, false_or, or_false, reduceIte]
    apply h14
    simp only [B_X6_within_14, o_zret, cats_nil, cats_cons, rf_s, rf_n, isR_r, isR_n, isR_rf, cat_i, cat_l, cat_r, cat_n, cat_rf, unl_i, unl_l, unl_r, unl_n, unl_j, unl_rf, orf_r, orf_n, orf_rf, rf_null, mA_pm, mL_pm, mP_pm, List.length_cons, List.length_nil, List.cons_append, List.nil_append, Nat.reduceAdd, Nat.reduceLeDiff, Nat.reduceLT, Nat.reduceEqDiff, Nat.zero_add, Nat.add_zero, Nat.le_refl, Nat.zero_le, true_and, and_true, true_or, or_true, false_or, or_false, reduceIte]
    exact H 0 (Or.inr ⟨rfl, q⟩)
  apply h0
  simp only [B_X6_within_0, o_il, o_if, o_ic2, o_ic, nth_0, nth_1, cats_nil, cats_cons, rf_s, rf_n, isR_r, isR_n, isR_rf, cat_i, cat_l, cat_r, cat_n, cat_rf, unl_i, unl_l, unl_r, unl_n, unl_j, unl_rf, orf_r, orf_n, orf_rf, rf_null, mA_pm, mL_pm, mP_pm, List.length_cons, List.length_nil, List.cons_append, List.nil_append, Nat.reduceAdd, Nat.reduceLeDiff, Nat.reduceLT, Nat.reduceEqDiff, Nat.zero_add, Nat.add_zero, Nat.le_refl, Nat.zero_le, true_and, and_true, true_or, or_true, false_or, or_false, reduceIte]
  refine ⟨fun q => k13 (fun i hi e => ?_), fun q => ⟨fun q2 => k13 (fun i hi e => ?_), fun q2 => ?_⟩⟩
  · rw [e] at q
    exact absurd (nI_pos' (n := i) (by omega)) (Int32.not_le.mpr q)
  · rw [e, nI_le_iff] at q2
    omega
  · apply h14
    simp only [B_X6_within_14, o_zret, cats_nil, cats_cons, rf_s, rf_n, isR_r, isR_n, isR_rf, cat_i, cat_l, cat_r, cat_n, cat_rf, unl_i, unl_l, unl_r, unl_n, unl_j, unl_rf, orf_r, orf_n, orf_rf, rf_null, mA_pm, mL_pm, mP_pm, List.length_cons, List.length_nil, List.cons_append, List.nil_append, Nat.reduceAdd, Nat.reduceLeDiff, Nat.reduceLT, Nat.reduceEqDiff, Nat.zero_add, Nat.add_zero, Nat.le_refl, Nat.zero_le, true_and, and_true, true_or, or_true, false_or, or_false, reduceIte]
    refine H 1 (Or.inl ⟨rfl, ?_⟩)
    have h1 : (0 : Int) ≤ x.toInt := by simpa using Int32.le_iff_toInt_le.mp (Int32.not_lt.mp q)
    have h2 : x.toInt < (n : Int) := by
      have := Int32.lt_iff_toInt_lt.mp (Int32.not_le.mp q2)
      rw [nI_toI hn] at this
      exact this
    refine ⟨x.toInt.toNat, by omega, ?_⟩
    apply Int32.toInt_inj.mp
    rw [nI_toI (by omega)]
    omega
theorem nI_ge0 {i : Nat} (h : i < 2147483648) : ¬ nI i < 0 := Int32.not_lt.mpr (nI_pos' h)
theorem ofN (n : Nat) : Int32.ofNat n = nI n := rfl
theorem rnn (a : Nat) : (Value.ref a = Value.null) = False := by simp
theorem rrn : (Value.null = Value.null) = True := by simp
theorem sp_at {k j i n : Nat} (hk : 8 ≤ k ∧ k < 80) (hM : isM k = false) (hL : mL c k j = n) (hn : n ≤ 10000) (hi : i < n) (H : Q [.int (mI c k i j)] (pm c M)) : K_X6_at l D (d + 1) [.ref (ob k j), .int (nI i)] (pm c M) Q := by
  refine m_X6_at (lsA := [.ref (ob k j), .int (nI i)]) rfl (Nat.le_of_ble_eq_true rfl) ?_
  intro X h0 h20 h21
  have e1 : kd (ob k j) = k := kd_ob j (by omega)
  have e2 : ix (ob k j) = j := ix_ob j (by omega)
  apply h0
  simp only [B_X6_at_0, o_al, o_ifn, o_il, o_if, o_alen, o_ic2, o_iald, nth_0, nth_1, cats_nil, cats_cons, rf_s, rf_n, isR_r, isR_n, isR_rf, cat_i, cat_l, cat_r, cat_n, cat_rf, unl_i, unl_l, unl_r, unl_n, unl_j, unl_rf, orf_r, orf_n, orf_rf, rf_null, mA_pm, mL_pm, mP_pm, List.length_cons, List.length_nil, List.cons_append, List.nil_append, Nat.reduceAdd, Nat.reduceLeDiff, Nat.reduceLT, Nat.reduceEqDiff, Nat.zero_add, Nat.add_zero, Nat.le_refl, Nat.zero_le, true_and, and_true, true_or, or_true, false_or, or_false, reduceIte, e1, e2, hL, hk.1, hk.2, cI_pm c M i j hM, ncl (n := i) (N := 10000) (by omega), show vp_in (nI i) n = True from vin hi (by omega), ofN, rnn, false_imp_iff, not_false_eq_true, true_imp_iff]
  refine ⟨fun q => absurd q (nI_ge0 (by omega)), fun _ => ⟨fun q => absurd q (by rw [nI_le_iff]; omega), fun _ => ?_⟩⟩
  apply h21
  simp only [B_X6_at_21, o_iret, cats_nil, cats_cons, rf_s, rf_n, isR_r, isR_n, isR_rf, cat_i, cat_l, cat_r, cat_n, cat_rf, unl_i, unl_l, unl_r, unl_n, unl_j, unl_rf, orf_r, orf_n, orf_rf, rf_null, mA_pm, mL_pm, mP_pm, List.length_cons, List.length_nil, List.cons_append, List.nil_append, Nat.reduceAdd, Nat.reduceLeDiff, Nat.reduceLT, Nat.reduceEqDiff, Nat.zero_add, Nat.add_zero, Nat.le_refl, Nat.zero_le, true_and, and_true, true_or, or_true, false_or, or_false, reduceIte]
  exact H
theorem sp_put {k j i n : Nat} (hk : 8 ≤ k ∧ k < 80) (hM : isM k = false) (hL : mL c k j = n) (hn : n ≤ 10000) (hi : i < n) (x : Int32) (H : Q [] (pm (wI c k i j x) M)) : K_X6_put l D (d + 1) [.ref (ob k j), .int (nI i), .int x] (pm c M) Q := by
  refine m_X6_put (lsA := [.ref (ob k j), .int (nI i), .int x]) rfl (Nat.le_of_ble_eq_true rfl) ?_
  intro X h0 h18
  have e1 : kd (ob k j) = k := kd_ob j (by omega)
  have e2 : ix (ob k j) = j := ix_ob j (by omega)
  apply h0
  simp only [B_X6_put_0, o_al, o_ifn, o_il, o_if, o_alen, o_ic2, o_iast, nth_0, nth_1, nth_2, cats_nil, cats_cons, rf_s, rf_n, isR_r, isR_n, isR_rf, cat_i, cat_l, cat_r, cat_n, cat_rf, unl_i, unl_l, unl_r, unl_n, unl_j, unl_rf, orf_r, orf_n, orf_rf, rf_null, mA_pm, mL_pm, mP_pm, List.length_cons, List.length_nil, List.cons_append, List.nil_append, Nat.reduceAdd, Nat.reduceLeDiff, Nat.reduceLT, Nat.reduceEqDiff, Nat.zero_add, Nat.add_zero, Nat.le_refl, Nat.zero_le, true_and, and_true, true_or, or_true, false_or, or_false, reduceIte, e1, e2, hL, hk.1, hk.2, wI_cm c M i j x hM, ncl (n := i) (N := 10000) (by omega), show vp_in (nI i) n = True from vin hi (by omega), ofN, rnn, false_imp_iff, not_false_eq_true, true_imp_iff]
  refine ⟨fun q => absurd q (nI_ge0 (by omega)), fun _ => ⟨fun q => absurd q (by rw [nI_le_iff]; omega), fun _ => ?_⟩⟩
  apply h18
  simp only [B_X6_put_18, o_vret, cats_nil, cats_cons, rf_s, rf_n, isR_r, isR_n, isR_rf, cat_i, cat_l, cat_r, cat_n, cat_rf, unl_i, unl_l, unl_r, unl_n, unl_j, unl_rf, orf_r, orf_n, orf_rf, rf_null, mA_pm, mL_pm, mP_pm, List.length_cons, List.length_nil, List.cons_append, List.nil_append, Nat.reduceAdd, Nat.reduceLeDiff, Nat.reduceLT, Nat.reduceEqDiff, Nat.zero_add, Nat.add_zero, Nat.le_refl, Nat.zero_le, true_and, and_true, true_or, or_true, false_or, or_false, reduceIte]
  exact H
theorem sp_at_ {k j i n : Nat} (hk : 88 ≤ k ∧ k < 96) (hM : isM k = false) (hL : mL c k j = n) (hn : n ≤ 10000) (hi : i < n) (H : Q [.long (mJ c k i j)] (pm c M)) : K_X6_at_ l D (d + 1) [.ref (ob k j), .int (nI i)] (pm c M) Q := by
  refine m_X6_at_ (lsA := [.ref (ob k j), .int (nI i)]) rfl (Nat.le_of_ble_eq_true rfl) ?_
  intro X h0 h20 h21
  have e1 : kd (ob k j) = k := kd_ob j (by omega)
  have e2 : ix (ob k j) = j := ix_ob j (by omega)
  have e3 : 8 ≤ k := by omega
  apply h0
  simp only [B_X6_at__0, o_al, o_ifn, o_il, o_if, o_alen, o_ic2, o_lald, nth_0, nth_1, cats_nil, cats_cons, rf_s, rf_n, isR_r, isR_n, isR_rf, cat_i, cat_l, cat_r, cat_n, cat_rf, unl_i, unl_l, unl_r, unl_n, unl_j, unl_rf, orf_r, orf_n, orf_rf, rf_null, mA_pm, mL_pm, mP_pm, List.length_cons, List.length_nil, List.cons_append, List.nil_append, Nat.reduceAdd, Nat.reduceLeDiff, Nat.reduceLT, Nat.reduceEqDiff, Nat.zero_add, Nat.add_zero, Nat.le_refl, Nat.zero_le, true_and, and_true, true_or, or_true, false_or, or_false, reduceIte, e1, e2, e3, hL, hk.1, hk.2, cJ_pm c M i j hM, ncl (n := i) (N := 10000) (by omega), show vp_in (nI i) n = True from vin hi (by omega), ofN, rnn, false_imp_iff, not_false_eq_true, true_imp_iff]
  refine ⟨fun q => absurd q (nI_ge0 (by omega)), fun _ => ⟨fun q => absurd q (by rw [nI_le_iff]; omega), fun _ => ?_⟩⟩
  apply h21
  simp only [B_X6_at__21, o_lret, cats_nil, cats_cons, rf_s, rf_n, isR_r, isR_n, isR_rf, cat_i, cat_l, cat_r, cat_n, cat_rf, unl_i, unl_l, unl_r, unl_n, unl_j, unl_rf, orf_r, orf_n, orf_rf, rf_null, mA_pm, mL_pm, mP_pm, List.length_cons, List.length_nil, List.cons_append, List.nil_append, Nat.reduceAdd, Nat.reduceLeDiff, Nat.reduceLT, Nat.reduceEqDiff, Nat.zero_add, Nat.add_zero, Nat.le_refl, Nat.zero_le, true_and, and_true, true_or, or_true, false_or, or_false, reduceIte]
  exact H
theorem sp_tapeAt (hc : SKF c) {nT nR nA : Nat} (hd : SKD c nT nR nA) (hT2 : nT ≤ 12) (x : Int32) (H : ∀ r, ((∃ t, t < nT ∧ x = nI t ∧ r = .ref (ob 5 t)) ∨ ((∀ t, t < nT → ¬ x = nI t) ∧ r = .null)) → Q [r] (pm c M)) : K_X6_tapeAt l D (d + 1) [.ref (ob 6 0), .int x] (pm c M) Q := by
  refine m_X6_tapeAt (lsA := [.ref (ob 6 0), .int x]) rfl (Nat.le_of_ble_eq_true rfl) ?_
  intro X h0 h22 h23
  have k22 : (∀ t, t < nT → ¬ x = nI t) → X 22 [.ref (ob 6 0), .int x] [] (pm c M) 0 0 := by
    intro q
    apply h22
    simp only [B_X6_tapeAt_22, o_null, cats_nil, cats_cons, rf_s, rf_n, isR_r, isR_n, isR_rf, cat_i, cat_l, cat_r, cat_n, cat_rf, unl_i, unl_l, unl_r, unl_n, unl_j, unl_rf, orf_r, orf_n, orf_rf, rf_null, mA_pm, mL_pm, mP_pm, List.length_cons, List.length_nil, List.cons_append, List.nil_append, Nat.reduceAdd, Nat.reduceLeDiff, Nat.reduceLT, Nat.reduceEqDiff, Nat.zero_add, Nat.add_zero, Nat.le_refl, Nat.zero_le, true_and, and_true, true_or, or_true, false_or, or_false, reduceIte]
    apply h23
    simp only [B_X6_tapeAt_23, o_aret, cats_nil, cats_cons, rf_s, rf_n, isR_r, isR_n, isR_rf, cat_i, cat_l, cat_r, cat_n, cat_rf, unl_i, unl_l, unl_r, unl_n, unl_j, unl_rf, orf_r, orf_n, orf_rf, rf_null, mA_pm, mL_pm, mP_pm, List.length_cons, List.length_nil, List.cons_append, List.nil_append, Nat.reduceAdd, Nat.reduceLeDiff, Nat.reduceLT, Nat.reduceEqDiff, Nat.zero_add, Nat.add_zero, Nat.le_refl, Nat.zero_le, true_and, and_true, true_or, or_true, false_or, or_false, reduceIte]
    exact H .null (Or.inr ⟨q, rfl⟩)
  apply h0
  simp only [B_X6_tapeAt_0, o_il, o_if, o_al, o_gf, o_alen, o_ic2, o_aald, nth_1, nth_0, mV_6_0, al_6, hc.p6_0, kd_96, ix_96, hc.l96, hc.a6, ix_6, cats_nil, cats_cons, rf_s, rf_n, isR_r, isR_n, isR_rf, cat_i, cat_l, cat_r, cat_n, cat_rf, unl_i, unl_l, unl_r, unl_n, unl_j, unl_rf, orf_r, orf_n, orf_rf, rf_null, mA_pm, mL_pm, mP_pm, List.length_cons, List.length_nil, List.cons_append, List.nil_append, Nat.reduceAdd, Nat.reduceLeDiff, Nat.reduceLT, Nat.reduceEqDiff, Nat.zero_add, Nat.add_zero, Nat.le_refl, Nat.zero_le, true_and, and_true, true_or, or_true, false_or, or_false, reduceIte, ofN]
  refine ⟨fun q => k22 (fun t ht e => ?_), fun q => ⟨fun q2 => k22 (fun t ht e => ?_), fun q2 => ?_⟩⟩
  · rw [e] at q
    exact nI_ge0 (by omega) q
  · rw [e, nI_le_iff] at q2
    omega
  · obtain ⟨t, ht, rfl⟩ : ∃ t, t < 12 ∧ x = nI t := in_nI (by omega) ⟨Int32.not_lt.mp q, by
      rw [show (nI 12 - 1 : Int32) = nI 11 by decide]
      have := Int32.lt_iff_toInt_lt.mp (Int32.not_le.mp q2)
      apply Int32.le_iff_toInt_le.mpr
      rw [nI_toI (by omega)] at this ⊢
      omega⟩
    simp only [vin ht, ncl ht, true_and, hd.1 t ht]
    apply h23
    by_cases hn : t < nT
    · rw [if_pos hn]
      simp only [B_X6_tapeAt_23, o_aret, cats_nil, cats_cons, rf_s, rf_n, isR_r, isR_n, isR_rf, cat_i, cat_l, cat_r, cat_n, cat_rf, unl_i, unl_l, unl_r, unl_n, unl_j, unl_rf, orf_r, orf_n, orf_rf, rf_null, mA_pm, mL_pm, mP_pm, List.length_cons, List.length_nil, List.cons_append, List.nil_append, Nat.reduceAdd, Nat.reduceLeDiff, Nat.reduceLT, Nat.reduceEqDiff, Nat.zero_add, Nat.add_zero, Nat.le_refl, Nat.zero_le, true_and, and_true, true_or, or_true, false_or, or_false, reduceIte]
      exact H _ (Or.inl ⟨t, hn, rfl, rfl⟩)
    · rw [if_neg hn]
      simp only [B_X6_tapeAt_23, o_aret, cats_nil, cats_cons, rf_s, rf_n, isR_r, isR_n, isR_rf, cat_i, cat_l, cat_r, cat_n, cat_rf, unl_i, unl_l, unl_r, unl_n, unl_j, unl_rf, orf_r, orf_n, orf_rf, rf_null, mA_pm, mL_pm, mP_pm, List.length_cons, List.length_nil, List.cons_append, List.nil_append, Nat.reduceAdd, Nat.reduceLeDiff, Nat.reduceLT, Nat.reduceEqDiff, Nat.zero_add, Nat.add_zero, Nat.le_refl, Nat.zero_le, true_and, and_true, true_or, or_true, false_or, or_false, reduceIte]
      exact H _ (Or.inr ⟨fun t' ht' e => by rw [nI_eq_iff] at e; omega, rfl⟩)
theorem sp_readerAt (hc : SKF c) {nT nR nA : Nat} (hd : SKD c nT nR nA) (hR2 : nR ≤ 3) (x : Int32) (H : ∀ r, ((∃ t, t < nR ∧ x = nI t ∧ r = .ref (ob 3 t)) ∨ ((∀ t, t < nR → ¬ x = nI t) ∧ r = .null)) → Q [r] (pm c M)) : K_X6_readerAt l D (d + 1) [.ref (ob 6 0), .int x] (pm c M) Q := by
  refine m_X6_readerAt (lsA := [.ref (ob 6 0), .int x]) rfl (Nat.le_of_ble_eq_true rfl) ?_
  intro X h0 h22 h23
  have k22 : (∀ t, t < nR → ¬ x = nI t) → X 22 [.ref (ob 6 0), .int x] [] (pm c M) 0 0 := by
    intro q
    apply h22
    simp only [B_X6_readerAt_22, o_null, cats_nil, cats_cons, rf_s, rf_n, isR_r, isR_n, isR_rf, cat_i, cat_l, cat_r, cat_n, cat_rf, unl_i, unl_l, unl_r, unl_n, unl_j, unl_rf, orf_r, orf_n, orf_rf, rf_null, mA_pm, mL_pm, mP_pm, List.length_cons, List.length_nil, List.cons_append, List.nil_append, Nat.reduceAdd, Nat.reduceLeDiff, Nat.reduceLT, Nat.reduceEqDiff, Nat.zero_add, Nat.add_zero, Nat.le_refl, Nat.zero_le, true_and, and_true, true_or, or_true, false_or, or_false, reduceIte]
    apply h23
    simp only [B_X6_readerAt_23, o_aret, cats_nil, cats_cons, rf_s, rf_n, isR_r, isR_n, isR_rf, cat_i, cat_l, cat_r, cat_n, cat_rf, unl_i, unl_l, unl_r, unl_n, unl_j, unl_rf, orf_r, orf_n, orf_rf, rf_null, mA_pm, mL_pm, mP_pm, List.length_cons, List.length_nil, List.cons_append, List.nil_append, Nat.reduceAdd, Nat.reduceLeDiff, Nat.reduceLT, Nat.reduceEqDiff, Nat.zero_add, Nat.add_zero, Nat.le_refl, Nat.zero_le, true_and, and_true, true_or, or_true, false_or, or_false, reduceIte]
    exact H .null (Or.inr ⟨q, rfl⟩)
  apply h0
  simp only [B_X6_readerAt_0, o_il, o_if, o_al, o_gf, o_alen, o_ic2, o_aald, nth_1, nth_0, mV_6_1, al_6, hc.p6_1, kd_97, ix_97, hc.l97, hc.a6, ix_6, cats_nil, cats_cons, rf_s, rf_n, isR_r, isR_n, isR_rf, cat_i, cat_l, cat_r, cat_n, cat_rf, unl_i, unl_l, unl_r, unl_n, unl_j, unl_rf, orf_r, orf_n, orf_rf, rf_null, mA_pm, mL_pm, mP_pm, List.length_cons, List.length_nil, List.cons_append, List.nil_append, Nat.reduceAdd, Nat.reduceLeDiff, Nat.reduceLT, Nat.reduceEqDiff, Nat.zero_add, Nat.add_zero, Nat.le_refl, Nat.zero_le, true_and, and_true, true_or, or_true, false_or, or_false, reduceIte, ofN]
  refine ⟨fun q => k22 (fun t ht e => ?_), fun q => ⟨fun q2 => k22 (fun t ht e => ?_), fun q2 => ?_⟩⟩
  · rw [e] at q
    exact nI_ge0 (by omega) q
  · rw [e, nI_le_iff] at q2
    omega
  · obtain ⟨t, ht, rfl⟩ : ∃ t, t < 3 ∧ x = nI t := in_nI (by omega) ⟨Int32.not_lt.mp q, by
      rw [show (nI 3 - 1 : Int32) = nI 2 by decide]
      have := Int32.lt_iff_toInt_lt.mp (Int32.not_le.mp q2)
      apply Int32.le_iff_toInt_le.mpr
      rw [nI_toI (by omega)] at this ⊢
      omega⟩
    simp only [vin ht, ncl ht, true_and, hd.2.1 t ht]
    apply h23
    by_cases hn : t < nR
    · rw [if_pos hn]
      simp only [B_X6_readerAt_23, o_aret, cats_nil, cats_cons, rf_s, rf_n, isR_r, isR_n, isR_rf, cat_i, cat_l, cat_r, cat_n, cat_rf, unl_i, unl_l, unl_r, unl_n, unl_j, unl_rf, orf_r, orf_n, orf_rf, rf_null, mA_pm, mL_pm, mP_pm, List.length_cons, List.length_nil, List.cons_append, List.nil_append, Nat.reduceAdd, Nat.reduceLeDiff, Nat.reduceLT, Nat.reduceEqDiff, Nat.zero_add, Nat.add_zero, Nat.le_refl, Nat.zero_le, true_and, and_true, true_or, or_true, false_or, or_false, reduceIte]
      exact H _ (Or.inl ⟨t, hn, rfl, rfl⟩)
    · rw [if_neg hn]
      simp only [B_X6_readerAt_23, o_aret, cats_nil, cats_cons, rf_s, rf_n, isR_r, isR_n, isR_rf, cat_i, cat_l, cat_r, cat_n, cat_rf, unl_i, unl_l, unl_r, unl_n, unl_j, unl_rf, orf_r, orf_n, orf_rf, rf_null, mA_pm, mL_pm, mP_pm, List.length_cons, List.length_nil, List.cons_append, List.nil_append, Nat.reduceAdd, Nat.reduceLeDiff, Nat.reduceLT, Nat.reduceEqDiff, Nat.zero_add, Nat.add_zero, Nat.le_refl, Nat.zero_le, true_and, and_true, true_or, or_true, false_or, or_false, reduceIte]
      exact H _ (Or.inr ⟨fun t' ht' e => by rw [nI_eq_iff] at e; omega, rfl⟩)
theorem sp_askAt (hc : SKF c) {nT nR nA : Nat} (hd : SKD c nT nR nA) (hA2 : nA ≤ 150) (x : Int32) (H : ∀ r, ((∃ t, t < nA ∧ x = nI t ∧ r = .ref (ob 1 t)) ∨ ((∀ t, t < nA → ¬ x = nI t) ∧ r = .null)) → Q [r] (pm c M)) : K_X6_askAt l D (d + 1) [.ref (ob 6 0), .int x] (pm c M) Q := by
  refine m_X6_askAt (lsA := [.ref (ob 6 0), .int x]) rfl (Nat.le_of_ble_eq_true rfl) ?_
  intro X h0 h22 h23
  have k22 : (∀ t, t < nA → ¬ x = nI t) → X 22 [.ref (ob 6 0), .int x] [] (pm c M) 0 0 := by
    intro q
    apply h22
    simp only [B_X6_askAt_22, o_null, cats_nil, cats_cons, rf_s, rf_n, isR_r, isR_n, isR_rf, cat_i, cat_l, cat_r, cat_n, cat_rf, unl_i, unl_l, unl_r, unl_n, unl_j, unl_rf, orf_r, orf_n, orf_rf, rf_null, mA_pm, mL_pm, mP_pm, List.length_cons, List.length_nil, List.cons_append, List.nil_append, Nat.reduceAdd, Nat.reduceLeDiff, Nat.reduceLT, Nat.reduceEqDiff, Nat.zero_add, Nat.add_zero, Nat.le_refl, Nat.zero_le, true_and, and_true, true_or, or_true, false_or, or_false, reduceIte]
    apply h23
    simp only [B_X6_askAt_23, o_aret, cats_nil, cats_cons, rf_s, rf_n, isR_r, isR_n, isR_rf, cat_i, cat_l, cat_r, cat_n, cat_rf, unl_i, unl_l, unl_r, unl_n, unl_j, unl_rf, orf_r, orf_n, orf_rf, rf_null, mA_pm, mL_pm, mP_pm, List.length_cons, List.length_nil, List.cons_append, List.nil_append, Nat.reduceAdd, Nat.reduceLeDiff, Nat.reduceLT, Nat.reduceEqDiff, Nat.zero_add, Nat.add_zero, Nat.le_refl, Nat.zero_le, true_and, and_true, true_or, or_true, false_or, or_false, reduceIte]
    exact H .null (Or.inr ⟨q, rfl⟩)
  apply h0
  simp only [B_X6_askAt_0, o_il, o_if, o_al, o_gf, o_alen, o_ic2, o_aald, nth_1, nth_0, mV_6_2, al_6, hc.p6_2, kd_98, ix_98, hc.l98, hc.a6, ix_6, cats_nil, cats_cons, rf_s, rf_n, isR_r, isR_n, isR_rf, cat_i, cat_l, cat_r, cat_n, cat_rf, unl_i, unl_l, unl_r, unl_n, unl_j, unl_rf, orf_r, orf_n, orf_rf, rf_null, mA_pm, mL_pm, mP_pm, List.length_cons, List.length_nil, List.cons_append, List.nil_append, Nat.reduceAdd, Nat.reduceLeDiff, Nat.reduceLT, Nat.reduceEqDiff, Nat.zero_add, Nat.add_zero, Nat.le_refl, Nat.zero_le, true_and, and_true, true_or, or_true, false_or, or_false, reduceIte, ofN]
  refine ⟨fun q => k22 (fun t ht e => ?_), fun q => ⟨fun q2 => k22 (fun t ht e => ?_), fun q2 => ?_⟩⟩
  · rw [e] at q
    exact nI_ge0 (by omega) q
  · rw [e, nI_le_iff] at q2
    omega
  · obtain ⟨t, ht, rfl⟩ : ∃ t, t < 150 ∧ x = nI t := in_nI (by omega) ⟨Int32.not_lt.mp q, by
      rw [show (nI 150 - 1 : Int32) = nI 149 by decide]
      have := Int32.lt_iff_toInt_lt.mp (Int32.not_le.mp q2)
      apply Int32.le_iff_toInt_le.mpr
      rw [nI_toI (by omega)] at this ⊢
      omega⟩
    simp only [vin ht, ncl ht, true_and, hd.2.2.1 t ht]
    apply h23
    by_cases hn : t < nA
    · rw [if_pos hn]
      simp only [B_X6_askAt_23, o_aret, cats_nil, cats_cons, rf_s, rf_n, isR_r, isR_n, isR_rf, cat_i, cat_l, cat_r, cat_n, cat_rf, unl_i, unl_l, unl_r, unl_n, unl_j, unl_rf, orf_r, orf_n, orf_rf, rf_null, mA_pm, mL_pm, mP_pm, List.length_cons, List.length_nil, List.cons_append, List.nil_append, Nat.reduceAdd, Nat.reduceLeDiff, Nat.reduceLT, Nat.reduceEqDiff, Nat.zero_add, Nat.add_zero, Nat.le_refl, Nat.zero_le, true_and, and_true, true_or, or_true, false_or, or_false, reduceIte]
      exact H _ (Or.inl ⟨t, hn, rfl, rfl⟩)
    · rw [if_neg hn]
      simp only [B_X6_askAt_23, o_aret, cats_nil, cats_cons, rf_s, rf_n, isR_r, isR_n, isR_rf, cat_i, cat_l, cat_r, cat_n, cat_rf, unl_i, unl_l, unl_r, unl_n, unl_j, unl_rf, orf_r, orf_n, orf_rf, rf_null, mA_pm, mL_pm, mP_pm, List.length_cons, List.length_nil, List.cons_append, List.nil_append, Nat.reduceAdd, Nat.reduceLeDiff, Nat.reduceLT, Nat.reduceEqDiff, Nat.zero_add, Nat.add_zero, Nat.le_refl, Nat.zero_le, true_and, and_true, true_or, or_true, false_or, or_false, reduceIte]
      exact H _ (Or.inr ⟨fun t' ht' e => by rw [nI_eq_iff] at e; omega, rfl⟩)
end ZC2
