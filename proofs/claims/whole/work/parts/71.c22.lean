/-! The class: an arm brings, finds a job -/
def bcC (c : HP) (k i t : Nat) : HP := wI (wI (sjC (wI c 5 6 t 1) k (nI t) (nI i) (mI c 5 0 t) (mI c 3 0 i) 0) 3 2 i 1) 3 3 i (nI t)
/-- what a choice of the class hangs on -/
def CHO (c : HP) (M : MD) (nT nR nA : Nat) : Prop := CA c M nA ∧ CTp c M nT ∧ CW c M nT nA ∧ CRd c M nR ∧ CAr c M ∧ mI c 6 10 0 = M.1 7 9 ∧ mI c 6 11 0 = M.1 7 10 ∧ mI c 6 12 0 = M.1 7 11
def GHO (M : MD) (nT nR nA : Nat) : Prop := GA M nT nA ∧ (∀ t, t < nT → ∃ h, h < 1000 ∧ M.1 20 t = nI h) ∧ (∀ k, k < nR → ∃ h, h < 1000 ∧ M.1 35 k = nI h) ∧ -1000 ≤ M.1 7 10 ∧ (∃ nw, nw < 1000000 ∧ M.1 7 9 = nI nw) ∧ (∀ j k, j ≤ k → k < nA → M.1 7 9 - M.1 29 k ≤ M.1 7 9 - M.1 29 j) ∧ GR M nR nT
section ZC22
variable {l : Launch} {D : DD} {d : Nat} {c : HP} {M N : MD} {Q : List Value → HP → Prop}
theorem sp_bringChosen (hc : SKF c) {nT nR nA k : Nat} (hd : SKD c nT nR nA) (hT2 : nT ≤ 12) (hR2 : nR ≤ 3) (hA2 : nA ≤ 150) (hk : k < 2) (hC : CHO c M nT nR nA) (hG : GHO M nT nR nA)
    (H0 : (∀ j, j < nR → ¬ M.1 36 j = 0) → Q [] (pm c N))
    (H1 : ∀ i t, i < nR → M.1 36 i = 0 → (∀ j, j < i → ¬ M.1 36 j = 0) → t < nT → ChR M (M.1 35 i) nA (nI t) → mayF M k (M.1 20 t) (M.1 35 i) → Q [] (pm (bcC c k i t) N))
    (H2 : ∀ i ch, i < nR → M.1 36 i = 0 → (∀ j, j < i → ¬ M.1 36 j = 0) → ChR M (M.1 35 i) nA ch → (∀ t, t < 12 → ch = nI t → ¬ mayF M k (M.1 20 t) (M.1 35 i)) → Q [] (pm c N)) : K_X6_bringChosen l D (d + 5) [.ref (ob 6 0), .ref (ob 0 k), .ref (ob 0 (1 - k))] (pm c N) Q := by
  refine m_X6_bringChosen (lsA := [.ref (ob 6 0), .ref (ob 0 k), .ref (ob 0 (1 - k)), jk, jk, jk, jk]) rfl (Nat.le_of_ble_eq_true rfl) ?_
  intro X h0 h18 h97
  obtain ⟨cA, cT, cW, cR, cJ, c10, c11, c12⟩ := hC
  obtain ⟨gA, g20, g35, gth, ⟨nw, gnw, gnw2⟩, gm, gR⟩ := hG
  have ak := hc.ar hk
  have ao := hc.ar (show 1 - k < 2 by omega)
  apply h0
  simp only [B_X6_bringChosen_0, o_al, o_is, o_il, o_as, o_ifn, o_vret, nth_0, lset_3, nth_3, lset_4, nth_4, opV_0, opV_1, al_6, ix_6, hc.a6, cats_nil, cats_cons, rf_s, rf_n, isR_r, isR_n, isR_rf, cat_i, cat_l, cat_r, cat_n, cat_rf, unl_i, unl_l, unl_r, unl_n, unl_j, unl_rf, orf_r, orf_n, orf_rf, rf_null, mA_pm, mL_pm, mP_pm, List.length_cons, List.length_nil, List.cons_append, List.nil_append, Nat.reduceAdd, Nat.reduceLeDiff, Nat.reduceLT, Nat.reduceEqDiff, Nat.zero_add, Nat.add_zero, Nat.le_refl, Nat.zero_le, true_and, and_true, true_or, or_true, false_or, or_false, reduceIte]
  refine sp_firstEmpty hc hd hR2 (fun r hr => ?_)
  simp only [o_al, o_is, o_il, o_as, o_ifn, o_vret, nth_0, lset_3, nth_3, lset_4, nth_4, opV_0, opV_1, al_6, ix_6, hc.a6, cats_nil, cats_cons, rf_s, rf_n, isR_r, isR_n, isR_rf, cat_i, cat_l, cat_r, cat_n, cat_rf, unl_i, unl_l, unl_r, unl_n, unl_j, unl_rf, orf_r, orf_n, orf_rf, rf_null, mA_pm, mL_pm, mP_pm, List.length_cons, List.length_nil, List.cons_append, List.nil_append, Nat.reduceAdd, Nat.reduceLeDiff, Nat.reduceLT, Nat.reduceEqDiff, Nat.zero_add, Nat.add_zero, Nat.le_refl, Nat.zero_le, true_and, and_true, true_or, or_true, false_or, or_false, reduceIte]
  refine sp_readerAt hc hd hR2 r (fun v hv => ?_)
  rcases hr with ⟨i, i1, i2, i3, rfl⟩ | ⟨rfl, i1⟩
  · rcases hv with ⟨i', j1, j2, rfl⟩ | ⟨j1, -⟩
    rotate_left
    · exact absurd rfl (j1 i i1)
    rw [nI_eq_iff] at j2
    subst j2
    have ha := (hd.2.2.2.2.1 i i1).1
    obtain ⟨r0, r2, -⟩ := cR i i1
    have e36 : M.1 36 i = 0 := by rw [← r2]; exact i2
    have e36' : ∀ j, j < i → ¬ M.1 36 j = 0 := fun j hj => by rw [← (cR j (by omega)).2.1]; exact i3 j hj
    obtain ⟨s, s1, s2⟩ := g35 i i1
    have k97 : ∀ c' ls, Q [] (pm c' N) → X 97 ls [] (pm c' N) 0 0 := by
      intro c' ls h
      apply h97
      simp only [B_X6_bringChosen_97, o_vret, cats_nil, cats_cons, rf_s, rf_n, isR_r, isR_n, isR_rf, cat_i, cat_l, cat_r, cat_n, cat_rf, unl_i, unl_l, unl_r, unl_n, unl_j, unl_rf, orf_r, orf_n, orf_rf, rf_null, mA_pm, mL_pm, mP_pm, List.length_cons, List.length_nil, List.cons_append, List.nil_append, Nat.reduceAdd, Nat.reduceLeDiff, Nat.reduceLT, Nat.reduceEqDiff, Nat.zero_add, Nat.add_zero, Nat.le_refl, Nat.zero_le, true_and, and_true, true_or, or_true, false_or, or_false, reduceIte]
      exact h
    simp only [o_al, o_is, o_il, o_as, o_ifn, o_vret, nth_0, lset_3, nth_3, lset_4, nth_4, opV_0, opV_1, al_6, ix_6, hc.a6, cats_nil, cats_cons, rf_s, rf_n, isR_r, isR_n, isR_rf, cat_i, cat_l, cat_r, cat_n, cat_rf, unl_i, unl_l, unl_r, unl_n, unl_j, unl_rf, orf_r, orf_n, orf_rf, rf_null, mA_pm, mL_pm, mP_pm, List.length_cons, List.length_nil, List.cons_append, List.nil_append, Nat.reduceAdd, Nat.reduceLeDiff, Nat.reduceLT, Nat.reduceEqDiff, Nat.zero_add, Nat.add_zero, Nat.le_refl, Nat.zero_le, true_and, and_true, true_or, or_true, false_or, or_false, reduceIte, rnn, false_imp_iff, not_false_eq_true, true_imp_iff]
    apply h18
    simp only [B_X6_bringChosen_18, o_al, o_gf, o_is, o_il, o_as, o_ifn, o_if, o_ic, o_pZ, o_pI, nth_0, nth_4, lset_5, nth_5, lset_6, nth_6, nth_1, nth_2, nth_3, opV_1, opS_4, opV_5, mV_3_0, al_3, cI_3, ix_3, mV_5_0, al_5, cI_5, ix_5, al_6, ix_6, hc.a6, al_0, ix_0, cw_5, cw_3, cats_nil, cats_cons, rf_s, rf_n, isR_r, isR_n, isR_rf, cat_i, cat_l, cat_r, cat_n, cat_rf, unl_i, unl_l, unl_r, unl_n, unl_j, unl_rf, orf_r, orf_n, orf_rf, rf_null, mA_pm, mL_pm, mP_pm, List.length_cons, List.length_nil, List.cons_append, List.nil_append, Nat.reduceAdd, Nat.reduceLeDiff, Nat.reduceLT, Nat.reduceEqDiff, Nat.zero_add, Nat.add_zero, Nat.le_refl, Nat.zero_le, true_and, and_true, true_or, or_true, false_or, or_false, reduceIte, ha, r0, s2]
    refine sp_chosenFor hc hd hT2 hA2 cA cT cW gA g20 s1 c10 c11 c12 gth gnw2 gnw gm (fun ch hch => ?_)
    rw [← s2] at hch
    simp only [o_al, o_gf, o_is, o_il, o_as, o_ifn, o_if, o_ic, o_pZ, o_pI, nth_0, nth_4, lset_5, nth_5, lset_6, nth_6, nth_1, nth_2, nth_3, opV_1, opS_4, opV_5, mV_3_0, al_3, cI_3, ix_3, mV_5_0, al_5, cI_5, ix_5, al_6, ix_6, hc.a6, al_0, ix_0, cw_5, cw_3, cats_nil, cats_cons, rf_s, rf_n, isR_r, isR_n, isR_rf, cat_i, cat_l, cat_r, cat_n, cat_rf, unl_i, unl_l, unl_r, unl_n, unl_j, unl_rf, orf_r, orf_n, orf_rf, rf_null, mA_pm, mL_pm, mP_pm, List.length_cons, List.length_nil, List.cons_append, List.nil_append, Nat.reduceAdd, Nat.reduceLeDiff, Nat.reduceLT, Nat.reduceEqDiff, Nat.zero_add, Nat.add_zero, Nat.le_refl, Nat.zero_le, true_and, and_true, true_or, or_true, false_or, or_false, reduceIte]
    refine sp_tapeAt hc hd hT2 ch (fun v hv => ?_)
    rcases hv with ⟨t, t1, rfl, rfl⟩ | ⟨t1, rfl⟩
    · have hat := hd.2.2.2.1 t t1
      have t0 := (cT t t1).1
      simp only [o_al, o_gf, o_is, o_il, o_as, o_ifn, o_if, o_ic, o_pZ, o_pI, nth_0, nth_4, lset_5, nth_5, lset_6, nth_6, nth_1, nth_2, nth_3, opV_1, opS_4, opV_5, mV_3_0, al_3, cI_3, ix_3, mV_5_0, al_5, cI_5, ix_5, al_6, ix_6, hc.a6, al_0, ix_0, cw_5, cw_3, cats_nil, cats_cons, rf_s, rf_n, isR_r, isR_n, isR_rf, cat_i, cat_l, cat_r, cat_n, cat_rf, unl_i, unl_l, unl_r, unl_n, unl_j, unl_rf, orf_r, orf_n, orf_rf, rf_null, mA_pm, mL_pm, mP_pm, List.length_cons, List.length_nil, List.cons_append, List.nil_append, Nat.reduceAdd, Nat.reduceLeDiff, Nat.reduceLT, Nat.reduceEqDiff, Nat.zero_add, Nat.add_zero, Nat.le_refl, Nat.zero_le, true_and, and_true, true_or, or_true, false_or, or_false, reduceIte, ha, hat, r0, t0, rnn, false_imp_iff, not_false_eq_true, true_imp_iff]
      refine sp_may6 ak ao _ _ (fun r hr => ?_)
      have hmay := CAr_may cJ hk (M.1 20 t) (M.1 35 i)
      simp only [o_al, o_gf, o_is, o_il, o_as, o_ifn, o_if, o_ic, o_pZ, o_pI, nth_0, nth_4, lset_5, nth_5, lset_6, nth_6, nth_1, nth_2, nth_3, opV_1, opS_4, opV_5, mV_3_0, al_3, cI_3, ix_3, mV_5_0, al_5, cI_5, ix_5, al_6, ix_6, hc.a6, al_0, ix_0, cw_5, cw_3, cats_nil, cats_cons, rf_s, rf_n, isR_r, isR_n, isR_rf, cat_i, cat_l, cat_r, cat_n, cat_rf, unl_i, unl_l, unl_r, unl_n, unl_j, unl_rf, orf_r, orf_n, orf_rf, rf_null, mA_pm, mL_pm, mP_pm, List.length_cons, List.length_nil, List.cons_append, List.nil_append, Nat.reduceAdd, Nat.reduceLeDiff, Nat.reduceLT, Nat.reduceEqDiff, Nat.zero_add, Nat.add_zero, Nat.le_refl, Nat.zero_le, true_and, and_true, true_or, or_true, false_or, or_false, reduceIte, ha, hat, ak, mA_wI, mI_wI, Nat.reduceEqDiff, false_and, and_false, r0, t0]
      rcases hr with ⟨rfl, hr⟩ | ⟨rfl, hr⟩
      · refine ⟨fun z => absurd z (by decide), fun _ => ?_⟩
        have h1 := H1 i t i1 e36 e36' t1 hch (hmay.mp hr)
        unfold bcC at h1
        rw [r0, t0] at h1
        refine sp_startJob (c := wI c 5 6 t 1) ak _ _ _ _ 0 (Or.inl rfl) ?_
        have ha2 : mA (sjC (wI c 5 6 t 1) k (nI t) (nI i) (M.1 20 t) (M.1 35 i) 0) 3 i = true := ha
        simp only [o_al, o_gf, o_is, o_il, o_as, o_ifn, o_if, o_ic, o_pZ, o_pI, nth_0, nth_4, lset_5, nth_5, lset_6, nth_6, nth_1, nth_2, nth_3, opV_1, opS_4, opV_5, mV_3_0, al_3, cI_3, ix_3, mV_5_0, al_5, cI_5, ix_5, al_6, ix_6, hc.a6, al_0, ix_0, cw_5, cw_3, cats_nil, cats_cons, rf_s, rf_n, isR_r, isR_n, isR_rf, cat_i, cat_l, cat_r, cat_n, cat_rf, unl_i, unl_l, unl_r, unl_n, unl_j, unl_rf, orf_r, orf_n, orf_rf, rf_null, mA_pm, mL_pm, mP_pm, List.length_cons, List.length_nil, List.cons_append, List.nil_append, Nat.reduceAdd, Nat.reduceLeDiff, Nat.reduceLT, Nat.reduceEqDiff, Nat.zero_add, Nat.add_zero, Nat.le_refl, Nat.zero_le, true_and, and_true, true_or, or_true, false_or, or_false, reduceIte, ha2, mA_wI]
        exact k97 _ _ h1
      · refine ⟨fun _ => k97 _ _ (H2 i (nI t) i1 e36 e36' hch (fun t' _ e z => ?_)), fun z => by first | exact absurd rfl z | exact absurd trivial z⟩
        rw [nI_eq_iff] at e
        rw [← e] at z
        exact hr (hmay.mpr z)
    · simp only [o_al, o_gf, o_is, o_il, o_as, o_ifn, o_if, o_ic, o_pZ, o_pI, nth_0, nth_4, lset_5, nth_5, lset_6, nth_6, nth_1, nth_2, nth_3, opV_1, opS_4, opV_5, mV_3_0, al_3, cI_3, ix_3, mV_5_0, al_5, cI_5, ix_5, al_6, ix_6, hc.a6, al_0, ix_0, cw_5, cw_3, cats_nil, cats_cons, rf_s, rf_n, isR_r, isR_n, isR_rf, cat_i, cat_l, cat_r, cat_n, cat_rf, unl_i, unl_l, unl_r, unl_n, unl_j, unl_rf, orf_r, orf_n, orf_rf, rf_null, mA_pm, mL_pm, mP_pm, List.length_cons, List.length_nil, List.cons_append, List.nil_append, Nat.reduceAdd, Nat.reduceLeDiff, Nat.reduceLT, Nat.reduceEqDiff, Nat.zero_add, Nat.add_zero, Nat.le_refl, Nat.zero_le, true_and, and_true, true_or, or_true, false_or, or_false, reduceIte]
      refine ⟨fun _ => k97 _ _ (H2 i ch i1 e36 e36' hch (fun t ht e _ => ?_)), fun z => by first | exact absurd rfl z | exact absurd trivial z⟩
      rcases ChR_v hT2 gA hch with z | ⟨t', z1, z2⟩
      · rw [z] at e
        exact nI_m1 (by omega) e.symm
      · exact t1 t' z1 z2
  · rcases hv with ⟨i', j1, j2, rfl⟩ | ⟨j1, rfl⟩
    · exact absurd j2.symm (nI_m1 (by omega))
    · simp only [o_al, o_is, o_il, o_as, o_ifn, o_vret, nth_0, lset_3, nth_3, lset_4, nth_4, opV_0, opV_1, al_6, ix_6, hc.a6, cats_nil, cats_cons, rf_s, rf_n, isR_r, isR_n, isR_rf, cat_i, cat_l, cat_r, cat_n, cat_rf, unl_i, unl_l, unl_r, unl_n, unl_j, unl_rf, orf_r, orf_n, orf_rf, rf_null, mA_pm, mL_pm, mP_pm, List.length_cons, List.length_nil, List.cons_append, List.nil_append, Nat.reduceAdd, Nat.reduceLeDiff, Nat.reduceLT, Nat.reduceEqDiff, Nat.zero_add, Nat.add_zero, Nat.le_refl, Nat.zero_le, true_and, and_true, true_or, or_true, false_or, or_false, reduceIte]
      exact ⟨fun _ => H0 (fun j hj => by rw [← (cR j hj).2.1]; exact i1 j hj), fun z => by first | exact absurd rfl z | exact absurd trivial z⟩
theorem sp_findJob (hc : SKF c) {nT nR nA k : Nat} (hd : SKD c nT nR nA) (hT2 : nT ≤ 12) (hR2 : nR ≤ 3) (hA2 : nA ≤ 150) (hk : k < 2) (hC : CHO c M nT nR nA) (hG : GHO M nT nR nA)
    (HJ : ¬ M.1 43 k = -1 → Q [] (pm c N))
    (HB : M.1 43 k = -1 → ∀ i, i < nR → backP M k i → (∀ j, j < i → ¬ backP M k j) → Q [] (pm (cbC c k i (rtN M i)) N))
    (H0 : M.1 43 k = -1 → (∀ j, j < nR → ¬ backP M k j) → (∀ j, j < nR → ¬ M.1 36 j = 0) → Q [] (pm c N))
    (H1 : M.1 43 k = -1 → (∀ j, j < nR → ¬ backP M k j) → ∀ i t, i < nR → M.1 36 i = 0 → (∀ j, j < i → ¬ M.1 36 j = 0) → t < nT → ChR M (M.1 35 i) nA (nI t) → mayF M k (M.1 20 t) (M.1 35 i) → Q [] (pm (bcC c k i t) N))
    (H2 : M.1 43 k = -1 → (∀ j, j < nR → ¬ backP M k j) → ∀ i ch, i < nR → M.1 36 i = 0 → (∀ j, j < i → ¬ M.1 36 j = 0) → ChR M (M.1 35 i) nA ch → (∀ t, t < 12 → ch = nI t → ¬ mayF M k (M.1 20 t) (M.1 35 i)) → Q [] (pm c N)) : K_X6_findJob l D (d + 6) [.ref (ob 6 0), .ref (ob 0 k), .ref (ob 0 (1 - k))] (pm c N) Q := by
  refine m_X6_findJob (lsA := [.ref (ob 6 0), .ref (ob 0 k), .ref (ob 0 (1 - k))]) rfl (Nat.le_of_ble_eq_true rfl) ?_
  intro X h0 h22
  have ak := hc.ar hk
  have e3 := (hC.2.2.2.2.1.2.2 k hk).2.1
  have k22 : ∀ c' ls, Q [] (pm c' N) → X 22 ls [] (pm c' N) 0 0 := by
    intro c' ls h
    apply h22
    simp only [B_X6_findJob_22, o_vret, cats_nil, cats_cons, rf_s, rf_n, isR_r, isR_n, isR_rf, cat_i, cat_l, cat_r, cat_n, cat_rf, unl_i, unl_l, unl_r, unl_n, unl_j, unl_rf, orf_r, orf_n, orf_rf, rf_null, mA_pm, mL_pm, mP_pm, List.length_cons, List.length_nil, List.cons_append, List.nil_append, Nat.reduceAdd, Nat.reduceLeDiff, Nat.reduceLT, Nat.reduceEqDiff, Nat.zero_add, Nat.add_zero, Nat.le_refl, Nat.zero_le, true_and, and_true, true_or, or_true, false_or, or_false, reduceIte]
    exact h
  apply h0
  simp only [B_X6_findJob_0, o_al, o_if, nth_1, nth_0, nth_2, opV_0, opV_2, al_0, ix_0, al_6, ix_6, hc.a6, cats_nil, cats_cons, rf_s, rf_n, isR_r, isR_n, isR_rf, cat_i, cat_l, cat_r, cat_n, cat_rf, unl_i, unl_l, unl_r, unl_n, unl_j, unl_rf, orf_r, orf_n, orf_rf, rf_null, mA_pm, mL_pm, mP_pm, List.length_cons, List.length_nil, List.cons_append, List.nil_append, Nat.reduceAdd, Nat.reduceLeDiff, Nat.reduceLT, Nat.reduceEqDiff, Nat.zero_add, Nat.add_zero, Nat.le_refl, Nat.zero_le, true_and, and_true, true_or, or_true, false_or, or_false, reduceIte, ak]
  refine sp_aJob ak ?_
  rw [e3]
  simp only [o_al, o_if, nth_1, nth_0, nth_2, opV_0, opV_2, al_0, ix_0, al_6, ix_6, hc.a6, cats_nil, cats_cons, rf_s, rf_n, isR_r, isR_n, isR_rf, cat_i, cat_l, cat_r, cat_n, cat_rf, unl_i, unl_l, unl_r, unl_n, unl_j, unl_rf, orf_r, orf_n, orf_rf, rf_null, mA_pm, mL_pm, mP_pm, List.length_cons, List.length_nil, List.cons_append, List.nil_append, Nat.reduceAdd, Nat.reduceLeDiff, Nat.reduceLT, Nat.reduceEqDiff, Nat.zero_add, Nat.add_zero, Nat.le_refl, Nat.zero_le, true_and, and_true, true_or, or_true, false_or, or_false, reduceIte]
  refine ⟨fun q => ?_, fun q => k22 _ _ (HJ (bi_ne0 q))⟩
  have hj : M.1 43 k = -1 := Decidable.not_not.mp (bi_e0 q)
  refine sp_clearReader hc hd hT2 hR2 hk hC.2.1 hC.2.2.2.1 hC.2.2.2.2.1 hG.2.2.2.2.2.2 (fun i i1 i2 i3 => ?_) (fun hnb => ?_)
  · simp only [o_al, o_if, nth_1, nth_0, nth_2, opV_0, opV_2, al_0, ix_0, al_6, ix_6, hc.a6, cats_nil, cats_cons, rf_s, rf_n, isR_r, isR_n, isR_rf, cat_i, cat_l, cat_r, cat_n, cat_rf, unl_i, unl_l, unl_r, unl_n, unl_j, unl_rf, orf_r, orf_n, orf_rf, rf_null, mA_pm, mL_pm, mP_pm, List.length_cons, List.length_nil, List.cons_append, List.nil_append, Nat.reduceAdd, Nat.reduceLeDiff, Nat.reduceLT, Nat.reduceEqDiff, Nat.zero_add, Nat.add_zero, Nat.le_refl, Nat.zero_le, true_and, and_true, true_or, or_true, false_or, or_false, reduceIte]
    exact ⟨fun z => absurd z (by decide), fun _ => k22 _ _ (HB hj i i1 i2 i3)⟩
  · simp only [o_al, o_if, nth_1, nth_0, nth_2, opV_0, opV_2, al_0, ix_0, al_6, ix_6, hc.a6, cats_nil, cats_cons, rf_s, rf_n, isR_r, isR_n, isR_rf, cat_i, cat_l, cat_r, cat_n, cat_rf, unl_i, unl_l, unl_r, unl_n, unl_j, unl_rf, orf_r, orf_n, orf_rf, rf_null, mA_pm, mL_pm, mP_pm, List.length_cons, List.length_nil, List.cons_append, List.nil_append, Nat.reduceAdd, Nat.reduceLeDiff, Nat.reduceLT, Nat.reduceEqDiff, Nat.zero_add, Nat.add_zero, Nat.le_refl, Nat.zero_le, true_and, and_true, true_or, or_true, false_or, or_false, reduceIte]
    refine ⟨fun _ => ?_, fun z => by first | exact absurd rfl z | exact absurd trivial z⟩
    refine sp_bringChosen hc hd hT2 hR2 hA2 hk hC hG (fun h => ?_) (fun i t a1 a2 a3 a4 a5 a6 => ?_) (fun i ch a1 a2 a3 a4 a5 => ?_)
    · simp only [o_al, o_if, nth_1, nth_0, nth_2, opV_0, opV_2, al_0, ix_0, al_6, ix_6, hc.a6, cats_nil, cats_cons, rf_s, rf_n, isR_r, isR_n, isR_rf, cat_i, cat_l, cat_r, cat_n, cat_rf, unl_i, unl_l, unl_r, unl_n, unl_j, unl_rf, orf_r, orf_n, orf_rf, rf_null, mA_pm, mL_pm, mP_pm, List.length_cons, List.length_nil, List.cons_append, List.nil_append, Nat.reduceAdd, Nat.reduceLeDiff, Nat.reduceLT, Nat.reduceEqDiff, Nat.zero_add, Nat.add_zero, Nat.le_refl, Nat.zero_le, true_and, and_true, true_or, or_true, false_or, or_false, reduceIte]
      exact k22 _ _ (H0 hj hnb h)
    · simp only [o_al, o_if, nth_1, nth_0, nth_2, opV_0, opV_2, al_0, ix_0, al_6, ix_6, hc.a6, cats_nil, cats_cons, rf_s, rf_n, isR_r, isR_n, isR_rf, cat_i, cat_l, cat_r, cat_n, cat_rf, unl_i, unl_l, unl_r, unl_n, unl_j, unl_rf, orf_r, orf_n, orf_rf, rf_null, mA_pm, mL_pm, mP_pm, List.length_cons, List.length_nil, List.cons_append, List.nil_append, Nat.reduceAdd, Nat.reduceLeDiff, Nat.reduceLT, Nat.reduceEqDiff, Nat.zero_add, Nat.add_zero, Nat.le_refl, Nat.zero_le, true_and, and_true, true_or, or_true, false_or, or_false, reduceIte]
      exact k22 _ _ (H1 hj hnb i t a1 a2 a3 a4 a5 a6)
    · simp only [o_al, o_if, nth_1, nth_0, nth_2, opV_0, opV_2, al_0, ix_0, al_6, ix_6, hc.a6, cats_nil, cats_cons, rf_s, rf_n, isR_r, isR_n, isR_rf, cat_i, cat_l, cat_r, cat_n, cat_rf, unl_i, unl_l, unl_r, unl_n, unl_j, unl_rf, orf_r, orf_n, orf_rf, rf_null, mA_pm, mL_pm, mP_pm, List.length_cons, List.length_nil, List.cons_append, List.nil_append, Nat.reduceAdd, Nat.reduceLeDiff, Nat.reduceLT, Nat.reduceEqDiff, Nat.zero_add, Nat.add_zero, Nat.le_refl, Nat.zero_le, true_and, and_true, true_or, or_true, false_or, or_false, reduceIte]
      exact k22 _ _ (H2 hj hnb i ch a1 a2 a3 a4 a5)
end ZC22
