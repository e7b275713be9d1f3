/-! The class beside the model: readers, arms; an arm clears a reader -/
def CRd (c : HP) (M : MD) (nR : Nat) : Prop := ∀ k, k < nR → mI c 3 0 k = M.1 35 k ∧ mI c 3 2 k = M.1 36 k ∧ mI c 3 3 k = M.1 37 k ∧ mI c 3 6 k = M.1 40 k ∧ (M.1 36 k = 2 → mI c 3 7 k = M.1 41 k) ∧ ∃ x, mI c 3 4 k = nI x ∧ mI c 3 5 k = nI (x + wkN M k) ∧ x + wkN M k ≤ 8 ∧ ∀ i, i < wkN M k → mI c 19 (x + i) k = M.1 38 (8 * k + i)
def CAr (c : HP) (M : MD) : Prop := mI c 0 0 0 = 1 ∧ mI c 0 0 1 = 0 ∧ ∀ j, j < 2 → mI c 0 1 j = M.1 42 j ∧ mI c 0 3 j = M.1 43 j ∧ (¬ M.1 43 j = -1 → mI c 0 4 j = M.1 46 j ∧ mI c 0 5 j = M.1 44 j ∧ mI c 0 6 j = M.1 45 j ∧ mI c 0 7 j = bi (M.1 81 j = 0) ∧ mI c 0 8 j = bi (¬ M.1 80 j = 0))
theorem CAr_may {c : HP} {M : MD} (h : CAr c M) {k : Nat} (hk : k < 2) (a b : Int32) : mayC c k (1 - k) a b ↔ mayF M k a b := by
  obtain ⟨h0, h1, hj⟩ := h
  obtain ⟨k1, k2, -⟩ := hj k hk
  obtain ⟨o1, o2, o3⟩ := hj (1 - k) (by omega)
  unfold mayC mayF
  rw [o2]
  by_cases q : M.1 43 (1 - k) = -1
  · exact ⟨fun _ => Or.inl q, fun _ => Or.inl q⟩
  · obtain ⟨p1, p2, p3, p4, p5⟩ := o3 q
    have e : nsF c (1 - k) = goalF M (1 - k) := by
      unfold nsF goalF
      rw [p2, p3, p5]
      by_cases z : M.1 80 (1 - k) = 0
      · rw [bi_f (fun y => y z), if_pos rfl, if_pos z]
      · rw [bi_t z, if_neg (by decide), if_neg z]
    rw [e, o1, k1, p3]
    have hk2 : k = 0 ∨ k = 1 := by omega
    rcases hk2 with rfl | rfl
    · rw [h0, if_neg (by decide), if_pos rfl]
    · rw [h1, if_pos rfl, if_neg (by decide)]
def cbC (c : HP) (k i t : Nat) : HP := sjC (wI c 5 6 t 1) k (mI c 3 3 i) (nI i) (mI c 3 0 i) (mI c 5 0 t) 1
section ZC21
variable {l : Launch} {D : DD} {d : Nat} {c : HP} {M N : MD} {Q : List Value → HP → Prop}
theorem SKF.ar {c : HP} (h : SKF c) {k : Nat} (hk : k < 2) : mA c 0 k = true := by
  have : k = 0 ∨ k = 1 := by omega
  rcases this with rfl | rfl
  · exact h.a0
  · exact h.a1
theorem sp_clearReader (hc : SKF c) {nT nR nA k : Nat} (hd : SKD c nT nR nA) (hT2 : nT ≤ 12) (hR2 : nR ≤ 3) (hk : k < 2) (hT : CTp c M nT) (hR : CRd c M nR) (hJ : CAr c M) (hGR : GR M nR nT) (H1 : ∀ i, i < nR → backP M k i → (∀ j, j < i → ¬ backP M k j) → Q [.int 1] (pm (cbC c k i (rtN M i)) N)) (H0 : (∀ j, j < nR → ¬ backP M k j) → Q [.int 0] (pm c N)) : K_X6_clearReader l D (d + 4) [.ref (ob 6 0), .ref (ob 0 k), .ref (ob 0 (1 - k))] (pm c N) Q := by
  refine m_X6_clearReader (lsA := [.ref (ob 6 0), .ref (ob 0 k), .ref (ob 0 (1 - k)), jk, jk, jk]) rfl (Nat.le_of_ble_eq_true rfl) ?_
  intro X h0 h2 h45 h116 h122
  have ak := hc.ar hk
  have ao := hc.ar (show 1 - k < 2 by omega)
  have loop : ∀ m i w4 w5, i + m = 3 → (∀ j, j < i → j < nR → ¬ backP M k j) → X 2 [.ref (ob 6 0), .ref (ob 0 k), .ref (ob 0 (1 - k)), .int (nI i), w4, w5] [] (pm c N) 0 0 := by
    intro m
    induction m with
    | zero =>
      intro i w4 w5 hi h
      obtain rfl : i = 3 := by omega
      apply h2
      simp only [B_X6_clearReader_2, o_il, o_al, o_gf, o_alen, o_ic2, o_aald, o_as, o_ifn, o_ic, nth_3, nth_0, lset_4, nth_4, mV_6_1, al_6, hc.p6_1, kd_97, ix_97, hc.l97, hc.a6, ix_6, mV_3_2, al_3, cI_3, ix_3, cats_nil, cats_cons, rf_s, rf_n, isR_r, isR_n, isR_rf, cat_i, cat_l, cat_r, cat_n, cat_rf, unl_i, unl_l, unl_r, unl_n, unl_j, unl_rf, orf_r, orf_n, orf_rf, rf_null, mA_pm, mL_pm, mP_pm, List.length_cons, List.length_nil, List.cons_append, List.nil_append, Nat.reduceAdd, Nat.reduceLeDiff, Nat.reduceLT, Nat.reduceEqDiff, Nat.zero_add, Nat.add_zero, Nat.le_refl, Nat.zero_le, true_and, and_true, true_or, or_true, false_or, or_false, reduceIte, ofN]
      refine ⟨fun _ => ?_, fun z => absurd (by decide) z⟩
      apply h122
      simp only [B_X6_clearReader_122, o_ic, o_zret, cats_nil, cats_cons, rf_s, rf_n, isR_r, isR_n, isR_rf, cat_i, cat_l, cat_r, cat_n, cat_rf, unl_i, unl_l, unl_r, unl_n, unl_j, unl_rf, orf_r, orf_n, orf_rf, rf_null, mA_pm, mL_pm, mP_pm, List.length_cons, List.length_nil, List.cons_append, List.nil_append, Nat.reduceAdd, Nat.reduceLeDiff, Nat.reduceLT, Nat.reduceEqDiff, Nat.zero_add, Nat.add_zero, Nat.le_refl, Nat.zero_le, true_and, and_true, true_or, or_true, false_or, or_false, reduceIte]
      exact H0 (fun j hj => h j (by omega) hj)
    | succ m ih =>
      intro i w4 w5 hi h
      have hi3 : i < 3 := by omega
      have k116 : ∀ w4 w5, (i < nR → ¬ backP M k i) → X 116 [.ref (ob 6 0), .ref (ob 0 k), .ref (ob 0 (1 - k)), .int (nI i), w4, w5] [] (pm c N) 0 0 := by
        intro w4 w5 q
        apply h116
        simp only [B_X6_clearReader_116, o_inc, nth_3, lset_3, cats_nil, cats_cons, rf_s, rf_n, isR_r, isR_n, isR_rf, cat_i, cat_l, cat_r, cat_n, cat_rf, unl_i, unl_l, unl_r, unl_n, unl_j, unl_rf, orf_r, orf_n, orf_rf, rf_null, mA_pm, mL_pm, mP_pm, List.length_cons, List.length_nil, List.cons_append, List.nil_append, Nat.reduceAdd, Nat.reduceLeDiff, Nat.reduceLT, Nat.reduceEqDiff, Nat.zero_add, Nat.add_zero, Nat.le_refl, Nat.zero_le, true_and, and_true, true_or, or_true, false_or, or_false, reduceIte, nI_1]
        exact ih (i + 1) w4 w5 (by omega) (nx h q)
      apply h2
      by_cases hn : i < nR
      · have ha := (hd.2.2.2.2.1 i hn).1
        obtain ⟨r0, r2, r3, -⟩ := hR i hn
        have k45 : (M.1 36 i = 3 ∨ M.1 36 i = 4) → X 45 [.ref (ob 6 0), .ref (ob 0 k), .ref (ob 0 (1 - k)), .int (nI i), .ref (ob 3 i), w5] [] (pm c N) 0 0 := by
          intro q
          apply h45
          simp only [B_X6_clearReader_45, o_al, o_gf, o_as, o_ifn, o_if, o_ic, o_pZ, o_il, o_zret, nth_0, nth_4, lset_5, nth_5, nth_1, nth_2, nth_3, opV_1, opS_4, opV_5, mV_3_3, al_3, cI_3, ix_3, mV_5_6, al_5, cI_5, ix_5, mV_3_0, mV_5_0, al_6, ix_6, hc.a6, al_0, ix_0, cw_5, cats_nil, cats_cons, rf_s, rf_n, isR_r, isR_n, isR_rf, cat_i, cat_l, cat_r, cat_n, cat_rf, unl_i, unl_l, unl_r, unl_n, unl_j, unl_rf, orf_r, orf_n, orf_rf, rf_null, mA_pm, mL_pm, mP_pm, List.length_cons, List.length_nil, List.cons_append, List.nil_append, Nat.reduceAdd, Nat.reduceLeDiff, Nat.reduceLT, Nat.reduceEqDiff, Nat.zero_add, Nat.add_zero, Nat.le_refl, Nat.zero_le, true_and, and_true, true_or, or_true, false_or, or_false, reduceIte, ha, r3]
          refine sp_tapeAt hc hd hT2 _ (fun r hr => ?_)
          rcases hr with ⟨t, ht, e, rfl⟩ | ⟨hno, rfl⟩
          · have hat := hd.2.2.2.1 t ht
            have ht12 : t < 12 := by omega
            obtain ⟨t0, -, -, -, -, t6⟩ := hT t ht
            have ert : rtN M i = t := by unfold rtN; rw [e, ncl ht12]
            have hbk : isBk M i := by
              rcases q with q | q
              · exact Or.inl q
              · exact Or.inr ⟨q, by rw [e]; exact nI_m1 (by omega)⟩
            simp only [o_al, o_gf, o_as, o_ifn, o_if, o_ic, o_pZ, o_il, o_zret, nth_0, nth_4, lset_5, nth_5, nth_1, nth_2, nth_3, opV_1, opS_4, opV_5, mV_3_3, al_3, cI_3, ix_3, mV_5_6, al_5, cI_5, ix_5, mV_3_0, mV_5_0, al_6, ix_6, hc.a6, al_0, ix_0, cw_5, cats_nil, cats_cons, rf_s, rf_n, isR_r, isR_n, isR_rf, cat_i, cat_l, cat_r, cat_n, cat_rf, unl_i, unl_l, unl_r, unl_n, unl_j, unl_rf, orf_r, orf_n, orf_rf, rf_null, mA_pm, mL_pm, mP_pm, List.length_cons, List.length_nil, List.cons_append, List.nil_append, Nat.reduceAdd, Nat.reduceLeDiff, Nat.reduceLT, Nat.reduceEqDiff, Nat.zero_add, Nat.add_zero, Nat.le_refl, Nat.zero_le, true_and, and_true, true_or, or_true, false_or, or_false, reduceIte, ha, hat, r3, r0, t0, t6, rnn, false_imp_iff, not_false_eq_true, true_imp_iff]
            refine ⟨fun q1 => ?_, fun q1 => k116 _ _ (fun _ z => z.2.1 (by rw [e]; exact bi_ne0 q1))⟩
            refine sp_may6 ak ao _ _ (fun r hr => ?_)
            simp only [o_al, o_gf, o_as, o_ifn, o_if, o_ic, o_pZ, o_il, o_zret, nth_0, nth_4, lset_5, nth_5, nth_1, nth_2, nth_3, opV_1, opS_4, opV_5, mV_3_3, al_3, cI_3, ix_3, mV_5_6, al_5, cI_5, ix_5, mV_3_0, mV_5_0, al_6, ix_6, hc.a6, al_0, ix_0, cw_5, cats_nil, cats_cons, rf_s, rf_n, isR_r, isR_n, isR_rf, cat_i, cat_l, cat_r, cat_n, cat_rf, unl_i, unl_l, unl_r, unl_n, unl_j, unl_rf, orf_r, orf_n, orf_rf, rf_null, mA_pm, mL_pm, mP_pm, List.length_cons, List.length_nil, List.cons_append, List.nil_append, Nat.reduceAdd, Nat.reduceLeDiff, Nat.reduceLT, Nat.reduceEqDiff, Nat.zero_add, Nat.add_zero, Nat.le_refl, Nat.zero_le, true_and, and_true, true_or, or_true, false_or, or_false, reduceIte, ha, hat, ak, mA_wI, mI_wI, Nat.reduceEqDiff, false_and, and_false, r3, r0, t0, e]
            have hmay := CAr_may hJ hk (M.1 35 i) (M.1 20 t)
            rcases hr with ⟨rfl, hr⟩ | ⟨rfl, hr⟩
            · refine ⟨fun z => absurd z (by decide), fun _ => ?_⟩
              have hb : backP M k i := ⟨hbk, by rw [e]; exact bi_e0 q1, by rw [ert]; exact hmay.mp hr⟩
              have h1 := H1 i hn hb (fun j hj => h j hj (by omega))
              unfold cbC at h1
              rw [ert, r3, r0, t0, e] at h1
              refine sp_startJob (c := wI c 5 6 t 1) ak _ _ _ _ 1 (Or.inr rfl) ?_
              simp only [o_al, o_gf, o_as, o_ifn, o_if, o_ic, o_pZ, o_il, o_zret, nth_0, nth_4, lset_5, nth_5, nth_1, nth_2, nth_3, opV_1, opS_4, opV_5, mV_3_3, al_3, cI_3, ix_3, mV_5_6, al_5, cI_5, ix_5, mV_3_0, mV_5_0, al_6, ix_6, hc.a6, al_0, ix_0, cw_5, cats_nil, cats_cons, rf_s, rf_n, isR_r, isR_n, isR_rf, cat_i, cat_l, cat_r, cat_n, cat_rf, unl_i, unl_l, unl_r, unl_n, unl_j, unl_rf, orf_r, orf_n, orf_rf, rf_null, mA_pm, mL_pm, mP_pm, List.length_cons, List.length_nil, List.cons_append, List.nil_append, Nat.reduceAdd, Nat.reduceLeDiff, Nat.reduceLT, Nat.reduceEqDiff, Nat.zero_add, Nat.add_zero, Nat.le_refl, Nat.zero_le, true_and, and_true, true_or, or_true, false_or, or_false, reduceIte]
              exact h1
            · exact ⟨fun _ => k116 _ _ (fun _ z => hr (hmay.mpr (by have := z.2.2; rw [ert] at this; exact this))), fun z => by first | exact absurd rfl z | exact absurd trivial z⟩
          · simp only [o_al, o_gf, o_as, o_ifn, o_if, o_ic, o_pZ, o_il, o_zret, nth_0, nth_4, lset_5, nth_5, nth_1, nth_2, nth_3, opV_1, opS_4, opV_5, mV_3_3, al_3, cI_3, ix_3, mV_5_6, al_5, cI_5, ix_5, mV_3_0, mV_5_0, al_6, ix_6, hc.a6, al_0, ix_0, cw_5, cats_nil, cats_cons, rf_s, rf_n, isR_r, isR_n, isR_rf, cat_i, cat_l, cat_r, cat_n, cat_rf, unl_i, unl_l, unl_r, unl_n, unl_j, unl_rf, orf_r, orf_n, orf_rf, rf_null, mA_pm, mL_pm, mP_pm, List.length_cons, List.length_nil, List.cons_append, List.nil_append, Nat.reduceAdd, Nat.reduceLeDiff, Nat.reduceLT, Nat.reduceEqDiff, Nat.zero_add, Nat.add_zero, Nat.le_refl, Nat.zero_le, true_and, and_true, true_or, or_true, false_or, or_false, reduceIte]
            refine ⟨fun _ => k116 _ _ (fun _ z => ?_), fun z => by first | exact absurd rfl z | exact absurd trivial z⟩
            obtain ⟨g1, g2⟩ := GR_bk hGR hn z.1
            exact hno _ g1 g2
        simp only [B_X6_clearReader_2, o_il, o_al, o_gf, o_alen, o_ic2, o_aald, o_as, o_ifn, o_ic, nth_3, nth_0, lset_4, nth_4, mV_6_1, al_6, hc.p6_1, kd_97, ix_97, hc.l97, hc.a6, ix_6, mV_3_2, al_3, cI_3, ix_3, cats_nil, cats_cons, rf_s, rf_n, isR_r, isR_n, isR_rf, cat_i, cat_l, cat_r, cat_n, cat_rf, unl_i, unl_l, unl_r, unl_n, unl_j, unl_rf, orf_r, orf_n, orf_rf, rf_null, mA_pm, mL_pm, mP_pm, List.length_cons, List.length_nil, List.cons_append, List.nil_append, Nat.reduceAdd, Nat.reduceLeDiff, Nat.reduceLT, Nat.reduceEqDiff, Nat.zero_add, Nat.add_zero, Nat.le_refl, Nat.zero_le, true_and, and_true, true_or, or_true, false_or, or_false, reduceIte, ofN, vin hi3, ncl hi3, hd.2.1 i hi3, if_pos hn, ha, rnn, false_imp_iff, not_false_eq_true, true_imp_iff, r2]
        refine ⟨fun z => absurd z (by rw [nI_le_iff]; omega), fun _ => ⟨fun q => k45 (Or.inl q), fun q => ⟨fun q2 => k45 (Or.inr q2), fun q2 => k116 _ _ (fun _ z => ?_)⟩⟩⟩
        rcases z.1 with z | z
        · exact q z
        · exact q2 z.1
      · simp only [B_X6_clearReader_2, o_il, o_al, o_gf, o_alen, o_ic2, o_aald, o_as, o_ifn, o_ic, nth_3, nth_0, lset_4, nth_4, mV_6_1, al_6, hc.p6_1, kd_97, ix_97, hc.l97, hc.a6, ix_6, mV_3_2, al_3, cI_3, ix_3, cats_nil, cats_cons, rf_s, rf_n, isR_r, isR_n, isR_rf, cat_i, cat_l, cat_r, cat_n, cat_rf, unl_i, unl_l, unl_r, unl_n, unl_j, unl_rf, orf_r, orf_n, orf_rf, rf_null, mA_pm, mL_pm, mP_pm, List.length_cons, List.length_nil, List.cons_append, List.nil_append, Nat.reduceAdd, Nat.reduceLeDiff, Nat.reduceLT, Nat.reduceEqDiff, Nat.zero_add, Nat.add_zero, Nat.le_refl, Nat.zero_le, true_and, and_true, true_or, or_true, false_or, or_false, reduceIte, ofN, vin hi3, ncl hi3, hd.2.1 i hi3, if_neg hn]
        refine ⟨fun z => absurd z (by rw [nI_le_iff]; omega), fun _ => ⟨fun _ => k116 _ _ (fun z => absurd z hn), fun z => by first | exact absurd rfl z | exact absurd trivial z⟩⟩
  apply h0
  simp only [B_X6_clearReader_0, o_ic, o_is, lset_3, cats_nil, cats_cons, rf_s, rf_n, isR_r, isR_n, isR_rf, cat_i, cat_l, cat_r, cat_n, cat_rf, unl_i, unl_l, unl_r, unl_n, unl_j, unl_rf, orf_r, orf_n, orf_rf, rf_null, mA_pm, mL_pm, mP_pm, List.length_cons, List.length_nil, List.cons_append, List.nil_append, Nat.reduceAdd, Nat.reduceLeDiff, Nat.reduceLT, Nat.reduceEqDiff, Nat.zero_add, Nat.add_zero, Nat.le_refl, Nat.zero_le, true_and, and_true, true_or, or_true, false_or, or_false, reduceIte]
  exact loop 3 0 _ _ (by omega) (fun t ht => by omega)
end ZC21
