/-! The class: answers to 'what' -/
section ZC34
variable {l : Launch} {D : DD} {d : Nat} {c : HP} {M N : MD} {Q : List Value → HP → Prop}
theorem sp_arm6 (hc : SKF c) (hJ : CAr c M) (x w : Int32) (H : ∀ r, ((∃ k, k < 2 ∧ x = nI k ∧ r = armF M k w) ∨ ((∀ k, k < 2 → ¬ x = nI k) ∧ r = -1)) → Q [.int r] (pm c N)) : K_X6_arm l D (d + 2) [.ref (ob 6 0), .int x, .int w] (pm c N) Q := by
  refine m_X6_arm (lsA := [.ref (ob 6 0), .int x, .int w, jk]) rfl (Nat.le_of_ble_eq_true rfl) ?_
  intro X h0 h11 h22 h26 h60 h65 h76 h87 h88 h89 h94 h108 h109 h110
  have k26 : ∀ k, k < 2 → x = nI k → X 26 [.ref (ob 6 0), .int x, .int w, jk] [.ref (ob 0 k)] (pm c N) 0 0 := by
    intro k hk ex
    obtain ⟨p1, p2, p3⟩ := hJ.2.2 k hk
    have ak := hc.ar hk
    have H2 : ∀ r, r = armF M k w → Q [.int r] (pm c N) := fun r hr => H r (Or.inl ⟨k, hk, ex, hr⟩)
    apply h26
    simp only [B_X6_arm_26, o_as, o_il, o_tsw, lset_3, nth_2, cats_nil, cats_cons, rf_s, rf_n, isR_r, isR_n, isR_rf, cat_i, cat_l, cat_r, cat_n, cat_rf, unl_i, unl_l, unl_r, unl_n, unl_j, unl_rf, orf_r, orf_n, orf_rf, rf_null, mA_pm, mL_pm, mP_pm, List.length_cons, List.length_nil, List.cons_append, List.nil_append, Nat.reduceAdd, Nat.reduceLeDiff, Nat.reduceLT, Nat.reduceEqDiff, Nat.zero_add, Nat.add_zero, Nat.le_refl, Nat.zero_le, true_and, and_true, true_or, or_true, false_or, or_false, reduceIte]
    unfold armF at H2
    rcases tgo_c 4 (by omega) 3 rfl 110 [60, 65, 89, 94] w with ⟨i, hi, rfl, e⟩ | ⟨hn, e⟩
    · rw [e]
      have hi4 : i = 0 ∨ i = 1 ∨ i = 2 ∨ i = 3 := by omega
      rcases hi4 with rfl | rfl | rfl | rfl
      · show X 60 _ _ _ _ _
        apply h60
        simp only [B_X6_arm_60, o_al, o_gf, o_iret, nth_3, mV_0_1, al_0, cI_0, ix_0, cats_nil, cats_cons, rf_s, rf_n, isR_r, isR_n, isR_rf, cat_i, cat_l, cat_r, cat_n, cat_rf, unl_i, unl_l, unl_r, unl_n, unl_j, unl_rf, orf_r, orf_n, orf_rf, rf_null, mA_pm, mL_pm, mP_pm, List.length_cons, List.length_nil, List.cons_append, List.nil_append, Nat.reduceAdd, Nat.reduceLeDiff, Nat.reduceLT, Nat.reduceEqDiff, Nat.zero_add, Nat.add_zero, Nat.le_refl, Nat.zero_le, true_and, and_true, true_or, or_true, false_or, or_false, reduceIte, ak]
        exact H2 _ (by rw [p1, if_pos (show nI 0 = 0 by decide)])
      · show X 65 _ _ _ _ _
        have k88 : ∀ r : Int32, r = (if M.1 43 k = -1 then 0 else if M.1 80 k = 0 then 1 else 2) → X 88 [.ref (ob 6 0), .int x, .int (nI 1), .ref (ob 0 k)] [.int r] (pm c N) 0 0 := by
          intro r hr
          apply h88
          simp only [B_X6_arm_88, o_iret, cats_nil, cats_cons, rf_s, rf_n, isR_r, isR_n, isR_rf, cat_i, cat_l, cat_r, cat_n, cat_rf, unl_i, unl_l, unl_r, unl_n, unl_j, unl_rf, orf_r, orf_n, orf_rf, rf_null, mA_pm, mL_pm, mP_pm, List.length_cons, List.length_nil, List.cons_append, List.nil_append, Nat.reduceAdd, Nat.reduceLeDiff, Nat.reduceLT, Nat.reduceEqDiff, Nat.zero_add, Nat.add_zero, Nat.le_refl, Nat.zero_le, true_and, and_true, true_or, or_true, false_or, or_false, reduceIte]
          exact H2 _ (by rw [hr, if_neg (show ¬ nI 1 = 0 by decide), if_pos (show nI 1 = 1 by decide)])
        apply h65
        simp only [B_X6_arm_65, o_al, o_if, o_ic, nth_3, opV_0, al_0, ix_0, cats_nil, cats_cons, rf_s, rf_n, isR_r, isR_n, isR_rf, cat_i, cat_l, cat_r, cat_n, cat_rf, unl_i, unl_l, unl_r, unl_n, unl_j, unl_rf, orf_r, orf_n, orf_rf, rf_null, mA_pm, mL_pm, mP_pm, List.length_cons, List.length_nil, List.cons_append, List.nil_append, Nat.reduceAdd, Nat.reduceLeDiff, Nat.reduceLT, Nat.reduceEqDiff, Nat.zero_add, Nat.add_zero, Nat.le_refl, Nat.zero_le, true_and, and_true, true_or, or_true, false_or, or_false, reduceIte, ak]
        refine sp_aJob ak ?_
        rw [p2]
        simp only [o_al, o_if, o_ic, nth_3, opV_0, al_0, ix_0, cats_nil, cats_cons, rf_s, rf_n, isR_r, isR_n, isR_rf, cat_i, cat_l, cat_r, cat_n, cat_rf, unl_i, unl_l, unl_r, unl_n, unl_j, unl_rf, orf_r, orf_n, orf_rf, rf_null, mA_pm, mL_pm, mP_pm, List.length_cons, List.length_nil, List.cons_append, List.nil_append, Nat.reduceAdd, Nat.reduceLeDiff, Nat.reduceLT, Nat.reduceEqDiff, Nat.zero_add, Nat.add_zero, Nat.le_refl, Nat.zero_le, true_and, and_true, true_or, or_true, false_or, or_false, reduceIte]
        refine ⟨fun q => k88 _ (by rw [if_pos (Decidable.not_not.mp (bi_e0 q))]), fun q => ?_⟩
        have hj := bi_ne0 q
        obtain ⟨q1, q2, q3, q4, q5⟩ := p3 hj
        apply h76
        simp only [B_X6_arm_76, o_al, o_gf, o_if, o_ic, nth_3, mV_0_8, al_0, cI_0, ix_0, cats_nil, cats_cons, rf_s, rf_n, isR_r, isR_n, isR_rf, cat_i, cat_l, cat_r, cat_n, cat_rf, unl_i, unl_l, unl_r, unl_n, unl_j, unl_rf, orf_r, orf_n, orf_rf, rf_null, mA_pm, mL_pm, mP_pm, List.length_cons, List.length_nil, List.cons_append, List.nil_append, Nat.reduceAdd, Nat.reduceLeDiff, Nat.reduceLT, Nat.reduceEqDiff, Nat.zero_add, Nat.add_zero, Nat.le_refl, Nat.zero_le, true_and, and_true, true_or, or_true, false_or, or_false, reduceIte, ak, q5]
        refine ⟨fun z => k88 _ (by rw [if_neg hj, if_pos (Decidable.not_not.mp (bi_e0 z))]), fun z => ?_⟩
        apply h87
        simp only [B_X6_arm_87, o_ic, cats_nil, cats_cons, rf_s, rf_n, isR_r, isR_n, isR_rf, cat_i, cat_l, cat_r, cat_n, cat_rf, unl_i, unl_l, unl_r, unl_n, unl_j, unl_rf, orf_r, orf_n, orf_rf, rf_null, mA_pm, mL_pm, mP_pm, List.length_cons, List.length_nil, List.cons_append, List.nil_append, Nat.reduceAdd, Nat.reduceLeDiff, Nat.reduceLT, Nat.reduceEqDiff, Nat.zero_add, Nat.add_zero, Nat.le_refl, Nat.zero_le, true_and, and_true, true_or, or_true, false_or, or_false, reduceIte]
        exact k88 _ (by rw [if_neg hj, if_neg (bi_ne0 z)])
      · show X 89 _ _ _ _ _
        apply h89
        simp only [B_X6_arm_89, o_al, o_gf, o_iret, nth_3, mV_0_3, al_0, cI_0, ix_0, cats_nil, cats_cons, rf_s, rf_n, isR_r, isR_n, isR_rf, cat_i, cat_l, cat_r, cat_n, cat_rf, unl_i, unl_l, unl_r, unl_n, unl_j, unl_rf, orf_r, orf_n, orf_rf, rf_null, mA_pm, mL_pm, mP_pm, List.length_cons, List.length_nil, List.cons_append, List.nil_append, Nat.reduceAdd, Nat.reduceLeDiff, Nat.reduceLT, Nat.reduceEqDiff, Nat.zero_add, Nat.add_zero, Nat.le_refl, Nat.zero_le, true_and, and_true, true_or, or_true, false_or, or_false, reduceIte, ak]
        exact H2 _ (by rw [p2, if_neg (show ¬ nI 2 = 0 by decide), if_neg (show ¬ nI 2 = 1 by decide), if_pos (show nI 2 = 2 by decide)])
      · show X 94 _ _ _ _ _
        have k109 : ∀ r : Int32, r = (if M.1 43 k = -1 then -1 else M.1 45 k) → X 109 [.ref (ob 6 0), .int x, .int (nI 3), .ref (ob 0 k)] [.int r] (pm c N) 0 0 := by
          intro r hr
          apply h109
          simp only [B_X6_arm_109, o_iret, cats_nil, cats_cons, rf_s, rf_n, isR_r, isR_n, isR_rf, cat_i, cat_l, cat_r, cat_n, cat_rf, unl_i, unl_l, unl_r, unl_n, unl_j, unl_rf, orf_r, orf_n, orf_rf, rf_null, mA_pm, mL_pm, mP_pm, List.length_cons, List.length_nil, List.cons_append, List.nil_append, Nat.reduceAdd, Nat.reduceLeDiff, Nat.reduceLT, Nat.reduceEqDiff, Nat.zero_add, Nat.add_zero, Nat.le_refl, Nat.zero_le, true_and, and_true, true_or, or_true, false_or, or_false, reduceIte]
          exact H2 _ (by rw [hr, if_neg (show ¬ nI 3 = 0 by decide), if_neg (show ¬ nI 3 = 1 by decide), if_neg (show ¬ nI 3 = 2 by decide), if_pos (show nI 3 = 3 by decide)])
        apply h94
        simp only [B_X6_arm_94, o_al, o_if, o_gf, nth_3, opV_0, mV_0_6, al_0, cI_0, ix_0, cats_nil, cats_cons, rf_s, rf_n, isR_r, isR_n, isR_rf, cat_i, cat_l, cat_r, cat_n, cat_rf, unl_i, unl_l, unl_r, unl_n, unl_j, unl_rf, orf_r, orf_n, orf_rf, rf_null, mA_pm, mL_pm, mP_pm, List.length_cons, List.length_nil, List.cons_append, List.nil_append, Nat.reduceAdd, Nat.reduceLeDiff, Nat.reduceLT, Nat.reduceEqDiff, Nat.zero_add, Nat.add_zero, Nat.le_refl, Nat.zero_le, true_and, and_true, true_or, or_true, false_or, or_false, reduceIte, ak]
        refine sp_aJob ak ?_
        rw [p2]
        simp only [o_al, o_if, o_gf, nth_3, opV_0, mV_0_6, al_0, cI_0, ix_0, cats_nil, cats_cons, rf_s, rf_n, isR_r, isR_n, isR_rf, cat_i, cat_l, cat_r, cat_n, cat_rf, unl_i, unl_l, unl_r, unl_n, unl_j, unl_rf, orf_r, orf_n, orf_rf, rf_null, mA_pm, mL_pm, mP_pm, List.length_cons, List.length_nil, List.cons_append, List.nil_append, Nat.reduceAdd, Nat.reduceLeDiff, Nat.reduceLT, Nat.reduceEqDiff, Nat.zero_add, Nat.add_zero, Nat.le_refl, Nat.zero_le, true_and, and_true, true_or, or_true, false_or, or_false, reduceIte, ak]
        refine ⟨fun q => ?_, fun q => ?_⟩
        · apply h108
          simp only [B_X6_arm_108, o_ic, cats_nil, cats_cons, rf_s, rf_n, isR_r, isR_n, isR_rf, cat_i, cat_l, cat_r, cat_n, cat_rf, unl_i, unl_l, unl_r, unl_n, unl_j, unl_rf, orf_r, orf_n, orf_rf, rf_null, mA_pm, mL_pm, mP_pm, List.length_cons, List.length_nil, List.cons_append, List.nil_append, Nat.reduceAdd, Nat.reduceLeDiff, Nat.reduceLT, Nat.reduceEqDiff, Nat.zero_add, Nat.add_zero, Nat.le_refl, Nat.zero_le, true_and, and_true, true_or, or_true, false_or, or_false, reduceIte]
          exact k109 _ (by rw [if_pos (Decidable.not_not.mp (bi_e0 q))])
        · have hj := bi_ne0 q
          exact k109 _ (by rw [if_neg hj, (p3 hj).2.2.1])
    · rw [e]
      apply h110
      simp only [B_X6_arm_110, o_ic, o_iret, cats_nil, cats_cons, rf_s, rf_n, isR_r, isR_n, isR_rf, cat_i, cat_l, cat_r, cat_n, cat_rf, unl_i, unl_l, unl_r, unl_n, unl_j, unl_rf, orf_r, orf_n, orf_rf, rf_null, mA_pm, mL_pm, mP_pm, List.length_cons, List.length_nil, List.cons_append, List.nil_append, Nat.reduceAdd, Nat.reduceLeDiff, Nat.reduceLT, Nat.reduceEqDiff, Nat.zero_add, Nat.add_zero, Nat.le_refl, Nat.zero_le, true_and, and_true, true_or, or_true, false_or, or_false, reduceIte]
      refine H2 _ ?_
      rw [if_neg (show ¬ w = 0 from hn 0 (by omega)), if_neg (show ¬ w = 1 from hn 1 (by omega)), if_neg (show ¬ w = 2 from hn 2 (by omega)), if_neg (show ¬ w = 3 from hn 3 (by omega))]
  apply h0
  simp only [B_X6_arm_0, o_il, o_if, o_ic, o_ic2, o_iret, nth_1, cats_nil, cats_cons, rf_s, rf_n, isR_r, isR_n, isR_rf, cat_i, cat_l, cat_r, cat_n, cat_rf, unl_i, unl_l, unl_r, unl_n, unl_j, unl_rf, orf_r, orf_n, orf_rf, rf_null, mA_pm, mL_pm, mP_pm, List.length_cons, List.length_nil, List.cons_append, List.nil_append, Nat.reduceAdd, Nat.reduceLeDiff, Nat.reduceLT, Nat.reduceEqDiff, Nat.zero_add, Nat.add_zero, Nat.le_refl, Nat.zero_le, true_and, and_true, true_or, or_true, false_or, or_false, reduceIte]
  refine ⟨fun q => ?_, fun q => ⟨fun q2 => ?_, fun q2 => ?_⟩⟩
  · apply h11
    simp only [B_X6_arm_11, o_il, o_if, o_al, o_gf, nth_1, nth_0, mV_6_3, al_6, hc.p6_3, hc.a6, ix_6, cats_nil, cats_cons, rf_s, rf_n, isR_r, isR_n, isR_rf, cat_i, cat_l, cat_r, cat_n, cat_rf, unl_i, unl_l, unl_r, unl_n, unl_j, unl_rf, orf_r, orf_n, orf_rf, rf_null, mA_pm, mL_pm, mP_pm, List.length_cons, List.length_nil, List.cons_append, List.nil_append, Nat.reduceAdd, Nat.reduceLeDiff, Nat.reduceLT, Nat.reduceEqDiff, Nat.zero_add, Nat.add_zero, Nat.le_refl, Nat.zero_le, true_and, and_true, true_or, or_true, false_or, or_false, reduceIte, hc.a6, hc.p6_3]
    refine ⟨fun _ => k26 0 (by omega) q, fun z => absurd q z⟩
  · apply h11
    simp only [B_X6_arm_11, o_il, o_if, o_al, o_gf, nth_1, nth_0, mV_6_3, al_6, hc.p6_3, hc.a6, ix_6, cats_nil, cats_cons, rf_s, rf_n, isR_r, isR_n, isR_rf, cat_i, cat_l, cat_r, cat_n, cat_rf, unl_i, unl_l, unl_r, unl_n, unl_j, unl_rf, orf_r, orf_n, orf_rf, rf_null, mA_pm, mL_pm, mP_pm, List.length_cons, List.length_nil, List.cons_append, List.nil_append, Nat.reduceAdd, Nat.reduceLeDiff, Nat.reduceLT, Nat.reduceEqDiff, Nat.zero_add, Nat.add_zero, Nat.le_refl, Nat.zero_le, true_and, and_true, true_or, or_true, false_or, or_false, reduceIte]
    refine ⟨fun z => absurd z q, fun _ => ?_⟩
    apply h22
    simp only [B_X6_arm_22, o_al, o_gf, nth_0, mV_6_4, al_6, hc.p6_4, hc.a6, ix_6, cats_nil, cats_cons, rf_s, rf_n, isR_r, isR_n, isR_rf, cat_i, cat_l, cat_r, cat_n, cat_rf, unl_i, unl_l, unl_r, unl_n, unl_j, unl_rf, orf_r, orf_n, orf_rf, rf_null, mA_pm, mL_pm, mP_pm, List.length_cons, List.length_nil, List.cons_append, List.nil_append, Nat.reduceAdd, Nat.reduceLeDiff, Nat.reduceLT, Nat.reduceEqDiff, Nat.zero_add, Nat.add_zero, Nat.le_refl, Nat.zero_le, true_and, and_true, true_or, or_true, false_or, or_false, reduceIte, hc.a6, hc.p6_4]
    exact k26 1 (by omega) q2
  · refine H _ (Or.inr ⟨fun k hk e => ?_, rfl⟩)
    have : k = 0 ∨ k = 1 := by omega
    rcases this with rfl | rfl
    · exact q e
    · exact q2 e
theorem sp_rig6 (hc : SKF c) {nT nR nA : Nat} (hd : SKD c nT nR nA) (hR2 : nR ≤ 3) (hR : CRd c M nR) (hW : GW M nR nA) (x w : Int32) (H : ∀ r, ((∃ k, k < nR ∧ x = nI k ∧ r = rigF M k w) ∨ ((∀ k, k < nR → ¬ x = nI k) ∧ r = -1)) → Q [.int r] (pm c N)) : K_X6_rig l D (d + 2) [.ref (ob 6 0), .int x, .int w] (pm c N) Q := by
  refine m_X6_rig (lsA := [.ref (ob 6 0), .int x, .int w, jk]) rfl (Nat.le_of_ble_eq_true rfl) ?_
  intro X h0 h12 h48 h53 h58 h63 h68 h73
  apply h0
  simp only [B_X6_rig_0, o_al, o_il, o_as, o_ifn, o_ic, o_iret, nth_0, nth_1, lset_3, nth_3, opV_1, al_6, ix_6, hc.a6, cats_nil, cats_cons, rf_s, rf_n, isR_r, isR_n, isR_rf, cat_i, cat_l, cat_r, cat_n, cat_rf, unl_i, unl_l, unl_r, unl_n, unl_j, unl_rf, orf_r, orf_n, orf_rf, rf_null, mA_pm, mL_pm, mP_pm, List.length_cons, List.length_nil, List.cons_append, List.nil_append, Nat.reduceAdd, Nat.reduceLeDiff, Nat.reduceLT, Nat.reduceEqDiff, Nat.zero_add, Nat.add_zero, Nat.le_refl, Nat.zero_le, true_and, and_true, true_or, or_true, false_or, or_false, reduceIte]
  refine sp_readerAt hc hd hR2 x (fun v hv => ?_)
  rcases hv with ⟨k, hk, rfl, rfl⟩ | ⟨hno, rfl⟩
  rotate_left
  · simp only [o_al, o_il, o_as, o_ifn, o_ic, o_iret, nth_0, nth_1, lset_3, nth_3, opV_1, al_6, ix_6, hc.a6, cats_nil, cats_cons, rf_s, rf_n, isR_r, isR_n, isR_rf, cat_i, cat_l, cat_r, cat_n, cat_rf, unl_i, unl_l, unl_r, unl_n, unl_j, unl_rf, orf_r, orf_n, orf_rf, rf_null, mA_pm, mL_pm, mP_pm, List.length_cons, List.length_nil, List.cons_append, List.nil_append, Nat.reduceAdd, Nat.reduceLeDiff, Nat.reduceLT, Nat.reduceEqDiff, Nat.zero_add, Nat.add_zero, Nat.le_refl, Nat.zero_le, true_and, and_true, true_or, or_true, false_or, or_false, reduceIte]
    exact ⟨fun _ => H _ (Or.inr ⟨hno, rfl⟩), fun z => by first | exact absurd rfl z | exact absurd trivial z⟩
  have ha := (hd.2.2.2.2.1 k hk).1
  obtain ⟨r1, r2, r3, r4, r5, y, r6, r7, r8, r9⟩ := hR k hk
  have w1 := (hW k hk).1
  have H2 : ∀ r, r = rigF M k w → Q [.int r] (pm c N) := fun r hr => H r (Or.inl ⟨k, hk, rfl, hr⟩)
  simp only [o_al, o_il, o_as, o_ifn, o_ic, o_iret, nth_0, nth_1, lset_3, nth_3, opV_1, al_6, ix_6, hc.a6, cats_nil, cats_cons, rf_s, rf_n, isR_r, isR_n, isR_rf, cat_i, cat_l, cat_r, cat_n, cat_rf, unl_i, unl_l, unl_r, unl_n, unl_j, unl_rf, orf_r, orf_n, orf_rf, rf_null, mA_pm, mL_pm, mP_pm, List.length_cons, List.length_nil, List.cons_append, List.nil_append, Nat.reduceAdd, Nat.reduceLeDiff, Nat.reduceLT, Nat.reduceEqDiff, Nat.zero_add, Nat.add_zero, Nat.le_refl, Nat.zero_le, true_and, and_true, true_or, or_true, false_or, or_false, reduceIte, rnn, false_imp_iff, not_false_eq_true, true_imp_iff]
  apply h12
  simp only [B_X6_rig_12, o_il, o_tsw, nth_2, cats_nil, cats_cons, rf_s, rf_n, isR_r, isR_n, isR_rf, cat_i, cat_l, cat_r, cat_n, cat_rf, unl_i, unl_l, unl_r, unl_n, unl_j, unl_rf, orf_r, orf_n, orf_rf, rf_null, mA_pm, mL_pm, mP_pm, List.length_cons, List.length_nil, List.cons_append, List.nil_append, Nat.reduceAdd, Nat.reduceLeDiff, Nat.reduceLT, Nat.reduceEqDiff, Nat.zero_add, Nat.add_zero, Nat.le_refl, Nat.zero_le, true_and, and_true, true_or, or_true, false_or, or_false, reduceIte]
  unfold rigF at H2
  rcases tgo_c 5 (by omega) 4 rfl 73 [48, 53, 58, 63, 68] w with ⟨i, hi, rfl, e⟩ | ⟨hn, e⟩
  · rw [e]
    have hin : i = 0 ∨ i = 1 ∨ i = 2 ∨ i = 3 ∨ i = 4 := by omega
    rcases hin with rfl | rfl | rfl | rfl | rfl
    · show X 48 _ _ _ _ _
      apply h48
      simp only [B_X6_rig_48, o_al, o_gf, o_iret, nth_3, mV_3_0, al_3, cI_3, ix_3, cats_nil, cats_cons, rf_s, rf_n, isR_r, isR_n, isR_rf, cat_i, cat_l, cat_r, cat_n, cat_rf, unl_i, unl_l, unl_r, unl_n, unl_j, unl_rf, orf_r, orf_n, orf_rf, rf_null, mA_pm, mL_pm, mP_pm, List.length_cons, List.length_nil, List.cons_append, List.nil_append, Nat.reduceAdd, Nat.reduceLeDiff, Nat.reduceLT, Nat.reduceEqDiff, Nat.zero_add, Nat.add_zero, Nat.le_refl, Nat.zero_le, true_and, and_true, true_or, or_true, false_or, or_false, reduceIte, ha]
      exact H2 _ r1
    · show X 53 _ _ _ _ _
      apply h53
      simp only [B_X6_rig_53, o_al, o_gf, o_iret, nth_3, mV_3_2, al_3, cI_3, ix_3, cats_nil, cats_cons, rf_s, rf_n, isR_r, isR_n, isR_rf, cat_i, cat_l, cat_r, cat_n, cat_rf, unl_i, unl_l, unl_r, unl_n, unl_j, unl_rf, orf_r, orf_n, orf_rf, rf_null, mA_pm, mL_pm, mP_pm, List.length_cons, List.length_nil, List.cons_append, List.nil_append, Nat.reduceAdd, Nat.reduceLeDiff, Nat.reduceLT, Nat.reduceEqDiff, Nat.zero_add, Nat.add_zero, Nat.le_refl, Nat.zero_le, true_and, and_true, true_or, or_true, false_or, or_false, reduceIte, ha]
      exact H2 _ r2
    · show X 58 _ _ _ _ _
      apply h58
      simp only [B_X6_rig_58, o_al, o_gf, o_iret, nth_3, mV_3_3, al_3, cI_3, ix_3, cats_nil, cats_cons, rf_s, rf_n, isR_r, isR_n, isR_rf, cat_i, cat_l, cat_r, cat_n, cat_rf, unl_i, unl_l, unl_r, unl_n, unl_j, unl_rf, orf_r, orf_n, orf_rf, rf_null, mA_pm, mL_pm, mP_pm, List.length_cons, List.length_nil, List.cons_append, List.nil_append, Nat.reduceAdd, Nat.reduceLeDiff, Nat.reduceLT, Nat.reduceEqDiff, Nat.zero_add, Nat.add_zero, Nat.le_refl, Nat.zero_le, true_and, and_true, true_or, or_true, false_or, or_false, reduceIte, ha]
      exact H2 _ r3
    · show X 63 _ _ _ _ _
      apply h63
      simp only [B_X6_rig_63, o_al, o_iret, nth_3, opV_0, al_3, ix_3, cats_nil, cats_cons, rf_s, rf_n, isR_r, isR_n, isR_rf, cat_i, cat_l, cat_r, cat_n, cat_rf, unl_i, unl_l, unl_r, unl_n, unl_j, unl_rf, orf_r, orf_n, orf_rf, rf_null, mA_pm, mL_pm, mP_pm, List.length_cons, List.length_nil, List.cons_append, List.nil_append, Nat.reduceAdd, Nat.reduceLeDiff, Nat.reduceLT, Nat.reduceEqDiff, Nat.zero_add, Nat.add_zero, Nat.le_refl, Nat.zero_le, true_and, and_true, true_or, or_true, false_or, or_false, reduceIte, ha]
      refine sp_workLeft ha ?_
      simp only [o_al, o_iret, nth_3, opV_0, al_3, ix_3, cats_nil, cats_cons, rf_s, rf_n, isR_r, isR_n, isR_rf, cat_i, cat_l, cat_r, cat_n, cat_rf, unl_i, unl_l, unl_r, unl_n, unl_j, unl_rf, orf_r, orf_n, orf_rf, rf_null, mA_pm, mL_pm, mP_pm, List.length_cons, List.length_nil, List.cons_append, List.nil_append, Nat.reduceAdd, Nat.reduceLeDiff, Nat.reduceLT, Nat.reduceEqDiff, Nat.zero_add, Nat.add_zero, Nat.le_refl, Nat.zero_le, true_and, and_true, true_or, or_true, false_or, or_false, reduceIte]
      refine H2 _ ?_
      rw [r6, r7, pk_sub (by omega)]
      refine Eq.trans ?_ w1.symm
      congr 1
      omega
    · show X 68 _ _ _ _ _
      apply h68
      simp only [B_X6_rig_68, o_al, o_gf, o_iret, nth_3, mV_3_6, al_3, cI_3, ix_3, cats_nil, cats_cons, rf_s, rf_n, isR_r, isR_n, isR_rf, cat_i, cat_l, cat_r, cat_n, cat_rf, unl_i, unl_l, unl_r, unl_n, unl_j, unl_rf, orf_r, orf_n, orf_rf, rf_null, mA_pm, mL_pm, mP_pm, List.length_cons, List.length_nil, List.cons_append, List.nil_append, Nat.reduceAdd, Nat.reduceLeDiff, Nat.reduceLT, Nat.reduceEqDiff, Nat.zero_add, Nat.add_zero, Nat.le_refl, Nat.zero_le, true_and, and_true, true_or, or_true, false_or, or_false, reduceIte, ha]
      exact H2 _ r4
  · rw [e]
    apply h73
    simp only [B_X6_rig_73, o_ic, o_iret, cats_nil, cats_cons, rf_s, rf_n, isR_r, isR_n, isR_rf, cat_i, cat_l, cat_r, cat_n, cat_rf, unl_i, unl_l, unl_r, unl_n, unl_j, unl_rf, orf_r, orf_n, orf_rf, rf_null, mA_pm, mL_pm, mP_pm, List.length_cons, List.length_nil, List.cons_append, List.nil_append, Nat.reduceAdd, Nat.reduceLeDiff, Nat.reduceLT, Nat.reduceEqDiff, Nat.zero_add, Nat.add_zero, Nat.le_refl, Nat.zero_le, true_and, and_true, true_or, or_true, false_or, or_false, reduceIte]
    refine H2 _ ?_
    rw [if_neg (show ¬ w = 0 from hn 0 (by omega)), if_neg (show ¬ w = 1 from hn 1 (by omega)), if_neg (show ¬ w = 2 from hn 2 (by omega)), if_neg (show ¬ w = 3 from hn 3 (by omega)), if_neg (show ¬ w = 4 from hn 4 (by omega))]
theorem sp_tapeOf6 (hc : SKF c) {nT nR nA : Nat} (hd : SKD c nT nR nA) (hT2 : nT ≤ 12) (hA2 : nA ≤ 150) (hA : CA c M nA) (hT : CTp c M nT) (hW : CW c M nT nA) (hh : ∀ t, t < nT → ∃ h, h < 1000 ∧ M.1 20 t = nI h) (h10 : mI c 6 10 0 = M.1 7 9) (x w : Int32) (H : ∀ r, ((∃ k, k < nT ∧ x = nI k ∧ r = tapeOfF M k nA w) ∨ ((∀ k, k < nT → ¬ x = nI k) ∧ r = -1)) → Q [.int r] (pm c N)) : K_X6_tapeOf l D (d + 2) [.ref (ob 6 0), .int x, .int w] (pm c N) Q := by
  refine m_X6_tapeOf (lsA := [.ref (ob 6 0), .int x, .int w, jk]) rfl (Nat.le_of_ble_eq_true rfl) ?_
  intro X h0 h12 h56 h61 h66 h71 h76 h81 h87 h97
  apply h0
  simp only [B_X6_tapeOf_0, o_al, o_il, o_as, o_ifn, o_ic, o_iret, nth_0, nth_1, lset_3, nth_3, opV_1, al_6, ix_6, hc.a6, cats_nil, cats_cons, rf_s, rf_n, isR_r, isR_n, isR_rf, cat_i, cat_l, cat_r, cat_n, cat_rf, unl_i, unl_l, unl_r, unl_n, unl_j, unl_rf, orf_r, orf_n, orf_rf, rf_null, mA_pm, mL_pm, mP_pm, List.length_cons, List.length_nil, List.cons_append, List.nil_append, Nat.reduceAdd, Nat.reduceLeDiff, Nat.reduceLT, Nat.reduceEqDiff, Nat.zero_add, Nat.add_zero, Nat.le_refl, Nat.zero_le, true_and, and_true, true_or, or_true, false_or, or_false, reduceIte]
  refine sp_tapeAt hc hd hT2 x (fun v hv => ?_)
  rcases hv with ⟨k, hk, rfl, rfl⟩ | ⟨hno, rfl⟩
  rotate_left
  · simp only [o_al, o_il, o_as, o_ifn, o_ic, o_iret, nth_0, nth_1, lset_3, nth_3, opV_1, al_6, ix_6, hc.a6, cats_nil, cats_cons, rf_s, rf_n, isR_r, isR_n, isR_rf, cat_i, cat_l, cat_r, cat_n, cat_rf, unl_i, unl_l, unl_r, unl_n, unl_j, unl_rf, orf_r, orf_n, orf_rf, rf_null, mA_pm, mL_pm, mP_pm, List.length_cons, List.length_nil, List.cons_append, List.nil_append, Nat.reduceAdd, Nat.reduceLeDiff, Nat.reduceLT, Nat.reduceEqDiff, Nat.zero_add, Nat.add_zero, Nat.le_refl, Nat.zero_le, true_and, and_true, true_or, or_true, false_or, or_false, reduceIte]
    exact ⟨fun _ => H _ (Or.inr ⟨hno, rfl⟩), fun z => by first | exact absurd rfl z | exact absurd trivial z⟩
  have ha := hd.2.2.2.1 k hk
  obtain ⟨t1, t2, t3, t4, t5, t6⟩ := hT k hk
  obtain ⟨w1, w2⟩ := hW.2.2 k hk
  obtain ⟨hm, hm1, hm2⟩ := hh k hk
  have H2 : ∀ r, r = tapeOfF M k nA w → Q [.int r] (pm c N) := fun r hr => H r (Or.inl ⟨k, hk, rfl, hr⟩)
  simp only [o_al, o_il, o_as, o_ifn, o_ic, o_iret, nth_0, nth_1, lset_3, nth_3, opV_1, al_6, ix_6, hc.a6, cats_nil, cats_cons, rf_s, rf_n, isR_r, isR_n, isR_rf, cat_i, cat_l, cat_r, cat_n, cat_rf, unl_i, unl_l, unl_r, unl_n, unl_j, unl_rf, orf_r, orf_n, orf_rf, rf_null, mA_pm, mL_pm, mP_pm, List.length_cons, List.length_nil, List.cons_append, List.nil_append, Nat.reduceAdd, Nat.reduceLeDiff, Nat.reduceLT, Nat.reduceEqDiff, Nat.zero_add, Nat.add_zero, Nat.le_refl, Nat.zero_le, true_and, and_true, true_or, or_true, false_or, or_false, reduceIte, rnn, false_imp_iff, not_false_eq_true, true_imp_iff]
  apply h12
  simp only [B_X6_tapeOf_12, o_il, o_tsw, nth_2, cats_nil, cats_cons, rf_s, rf_n, isR_r, isR_n, isR_rf, cat_i, cat_l, cat_r, cat_n, cat_rf, unl_i, unl_l, unl_r, unl_n, unl_j, unl_rf, orf_r, orf_n, orf_rf, rf_null, mA_pm, mL_pm, mP_pm, List.length_cons, List.length_nil, List.cons_append, List.nil_append, Nat.reduceAdd, Nat.reduceLeDiff, Nat.reduceLT, Nat.reduceEqDiff, Nat.zero_add, Nat.add_zero, Nat.le_refl, Nat.zero_le, true_and, and_true, true_or, or_true, false_or, or_false, reduceIte]
  unfold tapeOfF at H2
  rcases tgo_c 7 (by omega) 6 rfl 97 [56, 61, 66, 71, 76, 81, 87] w with ⟨i, hi, rfl, e⟩ | ⟨hn, e⟩
  · rw [e]
    have hin : i = 0 ∨ i = 1 ∨ i = 2 ∨ i = 3 ∨ i = 4 ∨ i = 5 ∨ i = 6 := by omega
    rcases hin with rfl | rfl | rfl | rfl | rfl | rfl | rfl
    · show X 56 _ _ _ _ _
      apply h56
      simp only [B_X6_tapeOf_56, o_al, o_gf, o_iret, nth_3, mV_5_0, al_5, cI_5, ix_5, cats_nil, cats_cons, rf_s, rf_n, isR_r, isR_n, isR_rf, cat_i, cat_l, cat_r, cat_n, cat_rf, unl_i, unl_l, unl_r, unl_n, unl_j, unl_rf, orf_r, orf_n, orf_rf, rf_null, mA_pm, mL_pm, mP_pm, List.length_cons, List.length_nil, List.cons_append, List.nil_append, Nat.reduceAdd, Nat.reduceLeDiff, Nat.reduceLT, Nat.reduceEqDiff, Nat.zero_add, Nat.add_zero, Nat.le_refl, Nat.zero_le, true_and, and_true, true_or, or_true, false_or, or_false, reduceIte, ha, al_5]
      exact H2 _ t1
    · show X 61 _ _ _ _ _
      apply h61
      simp only [B_X6_tapeOf_61, o_al, o_gf, o_iret, nth_3, mV_5_1, al_5, cI_5, ix_5, cats_nil, cats_cons, rf_s, rf_n, isR_r, isR_n, isR_rf, cat_i, cat_l, cat_r, cat_n, cat_rf, unl_i, unl_l, unl_r, unl_n, unl_j, unl_rf, orf_r, orf_n, orf_rf, rf_null, mA_pm, mL_pm, mP_pm, List.length_cons, List.length_nil, List.cons_append, List.nil_append, Nat.reduceAdd, Nat.reduceLeDiff, Nat.reduceLT, Nat.reduceEqDiff, Nat.zero_add, Nat.add_zero, Nat.le_refl, Nat.zero_le, true_and, and_true, true_or, or_true, false_or, or_false, reduceIte, ha, al_5]
      exact H2 _ t2
    · show X 66 _ _ _ _ _
      apply h66
      simp only [B_X6_tapeOf_66, o_al, o_gf, o_iret, nth_3, mV_5_2, al_5, cI_5, ix_5, cats_nil, cats_cons, rf_s, rf_n, isR_r, isR_n, isR_rf, cat_i, cat_l, cat_r, cat_n, cat_rf, unl_i, unl_l, unl_r, unl_n, unl_j, unl_rf, orf_r, orf_n, orf_rf, rf_null, mA_pm, mL_pm, mP_pm, List.length_cons, List.length_nil, List.cons_append, List.nil_append, Nat.reduceAdd, Nat.reduceLeDiff, Nat.reduceLT, Nat.reduceEqDiff, Nat.zero_add, Nat.add_zero, Nat.le_refl, Nat.zero_le, true_and, and_true, true_or, or_true, false_or, or_false, reduceIte, ha, al_5]
      exact H2 _ t3
    · show X 71 _ _ _ _ _
      apply h71
      simp only [B_X6_tapeOf_71, o_al, o_gf, o_iret, nth_3, mV_5_4, al_5, cI_5, ix_5, cats_nil, cats_cons, rf_s, rf_n, isR_r, isR_n, isR_rf, cat_i, cat_l, cat_r, cat_n, cat_rf, unl_i, unl_l, unl_r, unl_n, unl_j, unl_rf, orf_r, orf_n, orf_rf, rf_null, mA_pm, mL_pm, mP_pm, List.length_cons, List.length_nil, List.cons_append, List.nil_append, Nat.reduceAdd, Nat.reduceLeDiff, Nat.reduceLT, Nat.reduceEqDiff, Nat.zero_add, Nat.add_zero, Nat.le_refl, Nat.zero_le, true_and, and_true, true_or, or_true, false_or, or_false, reduceIte, ha, al_5]
      exact H2 _ t4
    · show X 76 _ _ _ _ _
      apply h76
      simp only [B_X6_tapeOf_76, o_al, o_gf, o_iret, nth_3, mV_5_5, al_5, cI_5, ix_5, cats_nil, cats_cons, rf_s, rf_n, isR_r, isR_n, isR_rf, cat_i, cat_l, cat_r, cat_n, cat_rf, unl_i, unl_l, unl_r, unl_n, unl_j, unl_rf, orf_r, orf_n, orf_rf, rf_null, mA_pm, mL_pm, mP_pm, List.length_cons, List.length_nil, List.cons_append, List.nil_append, Nat.reduceAdd, Nat.reduceLeDiff, Nat.reduceLT, Nat.reduceEqDiff, Nat.zero_add, Nat.add_zero, Nat.le_refl, Nat.zero_le, true_and, and_true, true_or, or_true, false_or, or_false, reduceIte, ha, al_5]
      exact H2 _ t5
    · show X 81 _ _ _ _ _
      apply h81
      simp only [B_X6_tapeOf_81, o_al, o_il, o_iret, nth_0, nth_1, opV_1, al_6, ix_6, hc.a6, cats_nil, cats_cons, rf_s, rf_n, isR_r, isR_n, isR_rf, cat_i, cat_l, cat_r, cat_n, cat_rf, unl_i, unl_l, unl_r, unl_n, unl_j, unl_rf, orf_r, orf_n, orf_rf, rf_null, mA_pm, mL_pm, mP_pm, List.length_cons, List.length_nil, List.cons_append, List.nil_append, Nat.reduceAdd, Nat.reduceLeDiff, Nat.reduceLT, Nat.reduceEqDiff, Nat.zero_add, Nat.add_zero, Nat.le_refl, Nat.zero_le, true_and, and_true, true_or, or_true, false_or, or_false, reduceIte, hc.a6]
      refine sp_waitingOf hc hd hA2 (nI k) ?_
      simp only [o_al, o_il, o_iret, nth_0, nth_1, opV_1, al_6, ix_6, hc.a6, cats_nil, cats_cons, rf_s, rf_n, isR_r, isR_n, isR_rf, cat_i, cat_l, cat_r, cat_n, cat_rf, unl_i, unl_l, unl_r, unl_n, unl_j, unl_rf, orf_r, orf_n, orf_rf, rf_null, mA_pm, mL_pm, mP_pm, List.length_cons, List.length_nil, List.cons_append, List.nil_append, Nat.reduceAdd, Nat.reduceLeDiff, Nat.reduceLT, Nat.reduceEqDiff, Nat.zero_add, Nat.add_zero, Nat.le_refl, Nat.zero_le, true_and, and_true, true_or, or_true, false_or, or_false, reduceIte]
      refine H2 _ ?_
      refine congrArg nI (cn_cong nA (fun a ha => ?_))
      obtain ⟨-, c1, -, -, -, -, -, c7, -⟩ := hA a ha
      rw [c1, c7]
    · show X 87 _ _ _ _ _
      apply h87
      simp only [B_X6_tapeOf_87, o_al, o_gf, o_ic, o_iret, nth_3, nth_0, opV_2, mV_6_10, al_6, cI_6, hc.a6, ix_6, al_5, ix_5, cats_nil, cats_cons, rf_s, rf_n, isR_r, isR_n, isR_rf, cat_i, cat_l, cat_r, cat_n, cat_rf, unl_i, unl_l, unl_r, unl_n, unl_j, unl_rf, orf_r, orf_n, orf_rf, rf_null, mA_pm, mL_pm, mP_pm, List.length_cons, List.length_nil, List.cons_append, List.nil_append, Nat.reduceAdd, Nat.reduceLeDiff, Nat.reduceLT, Nat.reduceEqDiff, Nat.zero_add, Nat.add_zero, Nat.le_refl, Nat.zero_le, true_and, and_true, true_or, or_true, false_or, or_false, reduceIte, ha, hc.a6, h10, al_5]
      refine sp_worth5 ha _ _ ?_
      simp only [o_al, o_gf, o_ic, o_iret, nth_3, nth_0, opV_2, mV_6_10, al_6, cI_6, hc.a6, ix_6, al_5, ix_5, cats_nil, cats_cons, rf_s, rf_n, isR_r, isR_n, isR_rf, cat_i, cat_l, cat_r, cat_n, cat_rf, unl_i, unl_l, unl_r, unl_n, unl_j, unl_rf, orf_r, orf_n, orf_rf, rf_null, mA_pm, mL_pm, mP_pm, List.length_cons, List.length_nil, List.cons_append, List.nil_append, Nat.reduceAdd, Nat.reduceLeDiff, Nat.reduceLT, Nat.reduceEqDiff, Nat.zero_add, Nat.add_zero, Nat.le_refl, Nat.zero_le, true_and, and_true, true_or, or_true, false_or, or_false, reduceIte]
      refine H2 _ ?_
      rw [w1, w2, wor_id, t1, hm2, show (0 : Int32) = nI 0 from rfl, absF_far (by omega) (by omega)]
      rw [if_neg (show ¬ nI 6 = nI 0 by decide), if_neg (show ¬ nI 6 = 1 by decide), if_neg (show ¬ nI 6 = 2 by decide), if_neg (show ¬ nI 6 = 3 by decide), if_neg (show ¬ nI 6 = 4 by decide), if_neg (show ¬ nI 6 = 5 by decide), if_pos (show nI 6 = 6 by decide)]
      unfold worF
      rw [hm2]
      grind
  · rw [e]
    apply h97
    simp only [B_X6_tapeOf_97, o_ic, o_iret, cats_nil, cats_cons, rf_s, rf_n, isR_r, isR_n, isR_rf, cat_i, cat_l, cat_r, cat_n, cat_rf, unl_i, unl_l, unl_r, unl_n, unl_j, unl_rf, orf_r, orf_n, orf_rf, rf_null, mA_pm, mL_pm, mP_pm, List.length_cons, List.length_nil, List.cons_append, List.nil_append, Nat.reduceAdd, Nat.reduceLeDiff, Nat.reduceLT, Nat.reduceEqDiff, Nat.zero_add, Nat.add_zero, Nat.le_refl, Nat.zero_le, true_and, and_true, true_or, or_true, false_or, or_false, reduceIte]
    refine H2 _ ?_
    rw [if_neg (show ¬ w = 0 from hn 0 (by omega)), if_neg (show ¬ w = 1 from hn 1 (by omega)), if_neg (show ¬ w = 2 from hn 2 (by omega)), if_neg (show ¬ w = 3 from hn 3 (by omega)), if_neg (show ¬ w = 4 from hn 4 (by omega)), if_neg (show ¬ w = 5 from hn 5 (by omega)), if_neg (show ¬ w = 6 from hn 6 (by omega))]
theorem sp_askOf6 (hc : SKF c) {nT nR nA : Nat} (hd : SKD c nT nR nA) (hA2 : nA ≤ 150) (hA : CA c M nA) (x w : Int32) (H : ∀ r, ((∃ k, k < nA ∧ x = nI k ∧ r = askOfF M k w) ∨ ((∀ k, k < nA → ¬ x = nI k) ∧ r = -1)) → Q [.long r] (pm c N)) : K_X6_askOf l D (d + 2) [.ref (ob 6 0), .int x, .int w] (pm c N) Q := by
  refine m_X6_askOf (lsA := [.ref (ob 6 0), .int x, .int w, jk]) rfl (Nat.le_of_ble_eq_true rfl) ?_
  intro X h0 h14 h60 h66 h72 h78 h84 h90 h95 h101 h107
  apply h0
  simp only [B_X6_askOf_0, o_al, o_il, o_as, o_ifn, o_lc, o_lret, nth_0, nth_1, lset_3, nth_3, opV_1, al_6, ix_6, hc.a6, cats_nil, cats_cons, rf_s, rf_n, isR_r, isR_n, isR_rf, cat_i, cat_l, cat_r, cat_n, cat_rf, unl_i, unl_l, unl_r, unl_n, unl_j, unl_rf, orf_r, orf_n, orf_rf, rf_null, mA_pm, mL_pm, mP_pm, List.length_cons, List.length_nil, List.cons_append, List.nil_append, Nat.reduceAdd, Nat.reduceLeDiff, Nat.reduceLT, Nat.reduceEqDiff, Nat.zero_add, Nat.add_zero, Nat.le_refl, Nat.zero_le, true_and, and_true, true_or, or_true, false_or, or_false, reduceIte]
  refine sp_askAt hc hd hA2 x (fun v hv => ?_)
  rcases hv with ⟨k, hk, rfl, rfl⟩ | ⟨hno, rfl⟩
  rotate_left
  · simp only [o_al, o_il, o_as, o_ifn, o_lc, o_lret, nth_0, nth_1, lset_3, nth_3, opV_1, al_6, ix_6, hc.a6, cats_nil, cats_cons, rf_s, rf_n, isR_r, isR_n, isR_rf, cat_i, cat_l, cat_r, cat_n, cat_rf, unl_i, unl_l, unl_r, unl_n, unl_j, unl_rf, orf_r, orf_n, orf_rf, rf_null, mA_pm, mL_pm, mP_pm, List.length_cons, List.length_nil, List.cons_append, List.nil_append, Nat.reduceAdd, Nat.reduceLeDiff, Nat.reduceLT, Nat.reduceEqDiff, Nat.zero_add, Nat.add_zero, Nat.le_refl, Nat.zero_le, true_and, and_true, true_or, or_true, false_or, or_false, reduceIte]
    exact ⟨fun _ => H _ (Or.inr ⟨hno, rfl⟩), fun z => by first | exact absurd rfl z | exact absurd trivial z⟩
  have ha := hd.2.2.2.2.2 k hk
  obtain ⟨c0, c1, c2, c3, c4, c5, c6, c7, c8, c9⟩ := hA k hk
  have H2 : ∀ r, r = askOfF M k w → Q [.long r] (pm c N) := fun r hr => H r (Or.inl ⟨k, hk, rfl, hr⟩)
  simp only [o_al, o_il, o_as, o_ifn, o_lc, o_lret, nth_0, nth_1, lset_3, nth_3, opV_1, al_6, ix_6, hc.a6, cats_nil, cats_cons, rf_s, rf_n, isR_r, isR_n, isR_rf, cat_i, cat_l, cat_r, cat_n, cat_rf, unl_i, unl_l, unl_r, unl_n, unl_j, unl_rf, orf_r, orf_n, orf_rf, rf_null, mA_pm, mL_pm, mP_pm, List.length_cons, List.length_nil, List.cons_append, List.nil_append, Nat.reduceAdd, Nat.reduceLeDiff, Nat.reduceLT, Nat.reduceEqDiff, Nat.zero_add, Nat.add_zero, Nat.le_refl, Nat.zero_le, true_and, and_true, true_or, or_true, false_or, or_false, reduceIte, rnn, false_imp_iff, not_false_eq_true, true_imp_iff]
  apply h14
  simp only [B_X6_askOf_14, o_il, o_tsw, nth_2, cats_nil, cats_cons, rf_s, rf_n, isR_r, isR_n, isR_rf, cat_i, cat_l, cat_r, cat_n, cat_rf, unl_i, unl_l, unl_r, unl_n, unl_j, unl_rf, orf_r, orf_n, orf_rf, rf_null, mA_pm, mL_pm, mP_pm, List.length_cons, List.length_nil, List.cons_append, List.nil_append, Nat.reduceAdd, Nat.reduceLeDiff, Nat.reduceLT, Nat.reduceEqDiff, Nat.zero_add, Nat.add_zero, Nat.le_refl, Nat.zero_le, true_and, and_true, true_or, or_true, false_or, or_false, reduceIte]
  unfold askOfF at H2
  rcases tgo_c 8 (by omega) 7 rfl 107 [60, 66, 72, 78, 84, 90, 95, 101] w with ⟨i, hi, rfl, e⟩ | ⟨hn, e⟩
  · rw [e]
    have hin : i = 0 ∨ i = 1 ∨ i = 2 ∨ i = 3 ∨ i = 4 ∨ i = 5 ∨ i = 6 ∨ i = 7 := by omega
    rcases hin with rfl | rfl | rfl | rfl | rfl | rfl | rfl | rfl
    · show X 60 _ _ _ _ _
      apply h60
      simp only [B_X6_askOf_60, o_al, o_gf, o_i2l, o_lret, nth_3, mV_1_0, al_1, cI_1, ix_1, cats_nil, cats_cons, rf_s, rf_n, isR_r, isR_n, isR_rf, cat_i, cat_l, cat_r, cat_n, cat_rf, unl_i, unl_l, unl_r, unl_n, unl_j, unl_rf, orf_r, orf_n, orf_rf, rf_null, mA_pm, mL_pm, mP_pm, List.length_cons, List.length_nil, List.cons_append, List.nil_append, Nat.reduceAdd, Nat.reduceLeDiff, Nat.reduceLT, Nat.reduceEqDiff, Nat.zero_add, Nat.add_zero, Nat.le_refl, Nat.zero_le, true_and, and_true, true_or, or_true, false_or, or_false, reduceIte, ha, al_1]
      exact H2 _ (congrArg Int32.toInt64 c0)
    · show X 66 _ _ _ _ _
      apply h66
      simp only [B_X6_askOf_66, o_al, o_gf, o_i2l, o_lret, nth_3, mV_1_1, al_1, cI_1, ix_1, cats_nil, cats_cons, rf_s, rf_n, isR_r, isR_n, isR_rf, cat_i, cat_l, cat_r, cat_n, cat_rf, unl_i, unl_l, unl_r, unl_n, unl_j, unl_rf, orf_r, orf_n, orf_rf, rf_null, mA_pm, mL_pm, mP_pm, List.length_cons, List.length_nil, List.cons_append, List.nil_append, Nat.reduceAdd, Nat.reduceLeDiff, Nat.reduceLT, Nat.reduceEqDiff, Nat.zero_add, Nat.add_zero, Nat.le_refl, Nat.zero_le, true_and, and_true, true_or, or_true, false_or, or_false, reduceIte, ha, al_1]
      exact H2 _ (congrArg Int32.toInt64 c1)
    · show X 72 _ _ _ _ _
      apply h72
      simp only [B_X6_askOf_72, o_al, o_gf, o_i2l, o_lret, nth_3, mV_1_7, al_1, cI_1, ix_1, cats_nil, cats_cons, rf_s, rf_n, isR_r, isR_n, isR_rf, cat_i, cat_l, cat_r, cat_n, cat_rf, unl_i, unl_l, unl_r, unl_n, unl_j, unl_rf, orf_r, orf_n, orf_rf, rf_null, mA_pm, mL_pm, mP_pm, List.length_cons, List.length_nil, List.cons_append, List.nil_append, Nat.reduceAdd, Nat.reduceLeDiff, Nat.reduceLT, Nat.reduceEqDiff, Nat.zero_add, Nat.add_zero, Nat.le_refl, Nat.zero_le, true_and, and_true, true_or, or_true, false_or, or_false, reduceIte, ha, al_1]
      exact H2 _ (congrArg Int32.toInt64 c7)
    · show X 78 _ _ _ _ _
      apply h78
      simp only [B_X6_askOf_78, o_al, o_gf, o_i2l, o_lret, nth_3, mV_1_4, al_1, cI_1, ix_1, cats_nil, cats_cons, rf_s, rf_n, isR_r, isR_n, isR_rf, cat_i, cat_l, cat_r, cat_n, cat_rf, unl_i, unl_l, unl_r, unl_n, unl_j, unl_rf, orf_r, orf_n, orf_rf, rf_null, mA_pm, mL_pm, mP_pm, List.length_cons, List.length_nil, List.cons_append, List.nil_append, Nat.reduceAdd, Nat.reduceLeDiff, Nat.reduceLT, Nat.reduceEqDiff, Nat.zero_add, Nat.add_zero, Nat.le_refl, Nat.zero_le, true_and, and_true, true_or, or_true, false_or, or_false, reduceIte, ha, al_1]
      exact H2 _ (congrArg Int32.toInt64 c4)
    · show X 84 _ _ _ _ _
      apply h84
      simp only [B_X6_askOf_84, o_al, o_gf, o_i2l, o_lret, nth_3, mV_1_8, al_1, cI_1, ix_1, cats_nil, cats_cons, rf_s, rf_n, isR_r, isR_n, isR_rf, cat_i, cat_l, cat_r, cat_n, cat_rf, unl_i, unl_l, unl_r, unl_n, unl_j, unl_rf, orf_r, orf_n, orf_rf, rf_null, mA_pm, mL_pm, mP_pm, List.length_cons, List.length_nil, List.cons_append, List.nil_append, Nat.reduceAdd, Nat.reduceLeDiff, Nat.reduceLT, Nat.reduceEqDiff, Nat.zero_add, Nat.add_zero, Nat.le_refl, Nat.zero_le, true_and, and_true, true_or, or_true, false_or, or_false, reduceIte, ha, al_1]
      exact H2 _ (congrArg Int32.toInt64 c8)
    · show X 90 _ _ _ _ _
      apply h90
      simp only [B_X6_askOf_90, o_al, o_gf, o_lret, nth_3, mV_1_9, al_1, cJ_1, ix_1, cats_nil, cats_cons, rf_s, rf_n, isR_r, isR_n, isR_rf, cat_i, cat_l, cat_r, cat_n, cat_rf, unl_i, unl_l, unl_r, unl_n, unl_j, unl_rf, orf_r, orf_n, orf_rf, rf_null, mA_pm, mL_pm, mP_pm, List.length_cons, List.length_nil, List.cons_append, List.nil_append, Nat.reduceAdd, Nat.reduceLeDiff, Nat.reduceLT, Nat.reduceEqDiff, Nat.zero_add, Nat.add_zero, Nat.le_refl, Nat.zero_le, true_and, and_true, true_or, or_true, false_or, or_false, reduceIte, ha, al_1]
      exact H2 _ c9
    · show X 95 _ _ _ _ _
      apply h95
      simp only [B_X6_askOf_95, o_al, o_gf, o_i2l, o_lret, nth_3, mV_1_2, al_1, cI_1, ix_1, cats_nil, cats_cons, rf_s, rf_n, isR_r, isR_n, isR_rf, cat_i, cat_l, cat_r, cat_n, cat_rf, unl_i, unl_l, unl_r, unl_n, unl_j, unl_rf, orf_r, orf_n, orf_rf, rf_null, mA_pm, mL_pm, mP_pm, List.length_cons, List.length_nil, List.cons_append, List.nil_append, Nat.reduceAdd, Nat.reduceLeDiff, Nat.reduceLT, Nat.reduceEqDiff, Nat.zero_add, Nat.add_zero, Nat.le_refl, Nat.zero_le, true_and, and_true, true_or, or_true, false_or, or_false, reduceIte, ha, al_1]
      exact H2 _ (congrArg Int32.toInt64 c2)
    · show X 101 _ _ _ _ _
      apply h101
      simp only [B_X6_askOf_101, o_al, o_gf, o_i2l, o_lret, nth_3, mV_1_3, al_1, cI_1, ix_1, cats_nil, cats_cons, rf_s, rf_n, isR_r, isR_n, isR_rf, cat_i, cat_l, cat_r, cat_n, cat_rf, unl_i, unl_l, unl_r, unl_n, unl_j, unl_rf, orf_r, orf_n, orf_rf, rf_null, mA_pm, mL_pm, mP_pm, List.length_cons, List.length_nil, List.cons_append, List.nil_append, Nat.reduceAdd, Nat.reduceLeDiff, Nat.reduceLT, Nat.reduceEqDiff, Nat.zero_add, Nat.add_zero, Nat.le_refl, Nat.zero_le, true_and, and_true, true_or, or_true, false_or, or_false, reduceIte, ha, al_1]
      exact H2 _ (congrArg Int32.toInt64 c3)
  · rw [e]
    apply h107
    simp only [B_X6_askOf_107, o_lc, o_lret, cats_nil, cats_cons, rf_s, rf_n, isR_r, isR_n, isR_rf, cat_i, cat_l, cat_r, cat_n, cat_rf, unl_i, unl_l, unl_r, unl_n, unl_j, unl_rf, orf_r, orf_n, orf_rf, rf_null, mA_pm, mL_pm, mP_pm, List.length_cons, List.length_nil, List.cons_append, List.nil_append, Nat.reduceAdd, Nat.reduceLeDiff, Nat.reduceLT, Nat.reduceEqDiff, Nat.zero_add, Nat.add_zero, Nat.le_refl, Nat.zero_le, true_and, and_true, true_or, or_true, false_or, or_false, reduceIte]
    refine H2 _ ?_
    rw [if_neg (show ¬ w = 0 from hn 0 (by omega)), if_neg (show ¬ w = 1 from hn 1 (by omega)), if_neg (show ¬ w = 2 from hn 2 (by omega)), if_neg (show ¬ w = 3 from hn 3 (by omega)), if_neg (show ¬ w = 4 from hn 4 (by omega)), if_neg (show ¬ w = 5 from hn 5 (by omega)), if_neg (show ¬ w = 6 from hn 6 (by omega)), if_neg (show ¬ w = 7 from hn 7 (by omega))]
theorem sp_count6 (hc : SKF c) {nT nR nA n : Nat} (hd : SKD c nT nR nA) (hA2 : nA ≤ 150) (hA : CA c M nA) (h7 : mI c 6 7 0 = M.1 7 1) (h8 : mI c 6 8 0 = M.1 7 26) (h9 : mI c 6 9 0 = M.1 7 8) (h10 : mI c 6 10 0 = M.1 7 9) (hg : AGC c M nA) (hgone : GNC c M) (h4 : mI c 4 4 0 = nI n) (hitem : M.1 7 42 = nI n) (w : Int32) (H : Q [.int (countF M nA w)] (pm c N)) : K_X6_count l D (d + 2) [.ref (ob 6 0), .int w] (pm c N) Q := by
  refine m_X6_count (lsA := [.ref (ob 6 0), .int w]) rfl (Nat.le_of_ble_eq_true rfl) ?_
  intro X h0 h64 h69 h74 h79 h84 h90 h96 h102 h108 h113 h118 h126 h142
  have H2 : ∀ r, r = countF M nA w → Q [.int r] (pm c N) := fun r hr => by rw [hr]; exact H
  have e7 : ∀ s : Int32, nI (cn (fun k => decide (mI c 1 7 k = s)) nA) = nI (cn (fun k => decide (M.1 30 k = s)) nA) := fun s => congrArg nI (cn_cong nA (fun a ha => by
    obtain ⟨-, -, -, -, -, -, -, c7, -⟩ := hA a ha
    rw [c7]))
  apply h0
  simp only [B_X6_count_0, o_il, o_tsw, nth_1, cats_nil, cats_cons, rf_s, rf_n, isR_r, isR_n, isR_rf, cat_i, cat_l, cat_r, cat_n, cat_rf, unl_i, unl_l, unl_r, unl_n, unl_j, unl_rf, orf_r, orf_n, orf_rf, rf_null, mA_pm, mL_pm, mP_pm, List.length_cons, List.length_nil, List.cons_append, List.nil_append, Nat.reduceAdd, Nat.reduceLeDiff, Nat.reduceLT, Nat.reduceEqDiff, Nat.zero_add, Nat.add_zero, Nat.le_refl, Nat.zero_le, true_and, and_true, true_or, or_true, false_or, or_false, reduceIte]
  unfold countF at H2
  rcases tgo_c 12 (by omega) 11 rfl 142 [64, 69, 74, 79, 84, 90, 96, 102, 108, 113, 118, 126] w with ⟨i, hi, rfl, e⟩ | ⟨hn, e⟩
  · rw [e]
    have hin : i = 0 ∨ i = 1 ∨ i = 2 ∨ i = 3 ∨ i = 4 ∨ i = 5 ∨ i = 6 ∨ i = 7 ∨ i = 8 ∨ i = 9 ∨ i = 10 ∨ i = 11 := by omega
    rcases hin with rfl | rfl | rfl | rfl | rfl | rfl | rfl | rfl | rfl | rfl | rfl | rfl
    · show X 64 _ _ _ _ _
      apply h64
      simp only [B_X6_count_64, o_al, o_gf, o_iret, nth_0, mV_6_7, al_6, cI_6, hc.a6, ix_6, cats_nil, cats_cons, rf_s, rf_n, isR_r, isR_n, isR_rf, cat_i, cat_l, cat_r, cat_n, cat_rf, unl_i, unl_l, unl_r, unl_n, unl_j, unl_rf, orf_r, orf_n, orf_rf, rf_null, mA_pm, mL_pm, mP_pm, List.length_cons, List.length_nil, List.cons_append, List.nil_append, Nat.reduceAdd, Nat.reduceLeDiff, Nat.reduceLT, Nat.reduceEqDiff, Nat.zero_add, Nat.add_zero, Nat.le_refl, Nat.zero_le, true_and, and_true, true_or, or_true, false_or, or_false, reduceIte, hc.a6]
      exact H2 _ h7
    · show X 69 _ _ _ _ _
      apply h69
      simp only [B_X6_count_69, o_al, o_gf, o_iret, nth_0, mV_6_8, al_6, cI_6, hc.a6, ix_6, cats_nil, cats_cons, rf_s, rf_n, isR_r, isR_n, isR_rf, cat_i, cat_l, cat_r, cat_n, cat_rf, unl_i, unl_l, unl_r, unl_n, unl_j, unl_rf, orf_r, orf_n, orf_rf, rf_null, mA_pm, mL_pm, mP_pm, List.length_cons, List.length_nil, List.cons_append, List.nil_append, Nat.reduceAdd, Nat.reduceLeDiff, Nat.reduceLT, Nat.reduceEqDiff, Nat.zero_add, Nat.add_zero, Nat.le_refl, Nat.zero_le, true_and, and_true, true_or, or_true, false_or, or_false, reduceIte, hc.a6]
      exact H2 _ h8
    · show X 74 _ _ _ _ _
      apply h74
      simp only [B_X6_count_74, o_al, o_gf, o_iret, nth_0, mV_6_9, al_6, cI_6, hc.a6, ix_6, cats_nil, cats_cons, rf_s, rf_n, isR_r, isR_n, isR_rf, cat_i, cat_l, cat_r, cat_n, cat_rf, unl_i, unl_l, unl_r, unl_n, unl_j, unl_rf, orf_r, orf_n, orf_rf, rf_null, mA_pm, mL_pm, mP_pm, List.length_cons, List.length_nil, List.cons_append, List.nil_append, Nat.reduceAdd, Nat.reduceLeDiff, Nat.reduceLT, Nat.reduceEqDiff, Nat.zero_add, Nat.add_zero, Nat.le_refl, Nat.zero_le, true_and, and_true, true_or, or_true, false_or, or_false, reduceIte, hc.a6]
      exact H2 _ h9
    · show X 79 _ _ _ _ _
      apply h79
      simp only [B_X6_count_79, o_al, o_gf, o_iret, nth_0, mV_6_10, al_6, cI_6, hc.a6, ix_6, cats_nil, cats_cons, rf_s, rf_n, isR_r, isR_n, isR_rf, cat_i, cat_l, cat_r, cat_n, cat_rf, unl_i, unl_l, unl_r, unl_n, unl_j, unl_rf, orf_r, orf_n, orf_rf, rf_null, mA_pm, mL_pm, mP_pm, List.length_cons, List.length_nil, List.cons_append, List.nil_append, Nat.reduceAdd, Nat.reduceLeDiff, Nat.reduceLT, Nat.reduceEqDiff, Nat.zero_add, Nat.add_zero, Nat.le_refl, Nat.zero_le, true_and, and_true, true_or, or_true, false_or, or_false, reduceIte, hc.a6]
      exact H2 _ h10
    · show X 84 _ _ _ _ _
      apply h84
      simp only [B_X6_count_84, o_al, o_ic, o_iret, nth_0, opV_1, al_6, ix_6, hc.a6, cats_nil, cats_cons, rf_s, rf_n, isR_r, isR_n, isR_rf, cat_i, cat_l, cat_r, cat_n, cat_rf, unl_i, unl_l, unl_r, unl_n, unl_j, unl_rf, orf_r, orf_n, orf_rf, rf_null, mA_pm, mL_pm, mP_pm, List.length_cons, List.length_nil, List.cons_append, List.nil_append, Nat.reduceAdd, Nat.reduceLeDiff, Nat.reduceLT, Nat.reduceEqDiff, Nat.zero_add, Nat.add_zero, Nat.le_refl, Nat.zero_le, true_and, and_true, true_or, or_true, false_or, or_false, reduceIte, hc.a6]
      refine sp_asksThatAre hc hd hA2 0 ?_
      simp only [o_al, o_ic, o_iret, nth_0, opV_1, al_6, ix_6, hc.a6, cats_nil, cats_cons, rf_s, rf_n, isR_r, isR_n, isR_rf, cat_i, cat_l, cat_r, cat_n, cat_rf, unl_i, unl_l, unl_r, unl_n, unl_j, unl_rf, orf_r, orf_n, orf_rf, rf_null, mA_pm, mL_pm, mP_pm, List.length_cons, List.length_nil, List.cons_append, List.nil_append, Nat.reduceAdd, Nat.reduceLeDiff, Nat.reduceLT, Nat.reduceEqDiff, Nat.zero_add, Nat.add_zero, Nat.le_refl, Nat.zero_le, true_and, and_true, true_or, or_true, false_or, or_false, reduceIte]
      exact H2 _ (e7 0)
    · show X 90 _ _ _ _ _
      apply h90
      simp only [B_X6_count_90, o_al, o_ic, o_iret, nth_0, opV_1, al_6, ix_6, hc.a6, cats_nil, cats_cons, rf_s, rf_n, isR_r, isR_n, isR_rf, cat_i, cat_l, cat_r, cat_n, cat_rf, unl_i, unl_l, unl_r, unl_n, unl_j, unl_rf, orf_r, orf_n, orf_rf, rf_null, mA_pm, mL_pm, mP_pm, List.length_cons, List.length_nil, List.cons_append, List.nil_append, Nat.reduceAdd, Nat.reduceLeDiff, Nat.reduceLT, Nat.reduceEqDiff, Nat.zero_add, Nat.add_zero, Nat.le_refl, Nat.zero_le, true_and, and_true, true_or, or_true, false_or, or_false, reduceIte, hc.a6]
      refine sp_asksThatAre hc hd hA2 1 ?_
      simp only [o_al, o_ic, o_iret, nth_0, opV_1, al_6, ix_6, hc.a6, cats_nil, cats_cons, rf_s, rf_n, isR_r, isR_n, isR_rf, cat_i, cat_l, cat_r, cat_n, cat_rf, unl_i, unl_l, unl_r, unl_n, unl_j, unl_rf, orf_r, orf_n, orf_rf, rf_null, mA_pm, mL_pm, mP_pm, List.length_cons, List.length_nil, List.cons_append, List.nil_append, Nat.reduceAdd, Nat.reduceLeDiff, Nat.reduceLT, Nat.reduceEqDiff, Nat.zero_add, Nat.add_zero, Nat.le_refl, Nat.zero_le, true_and, and_true, true_or, or_true, false_or, or_false, reduceIte]
      exact H2 _ (e7 1)
    · show X 96 _ _ _ _ _
      apply h96
      simp only [B_X6_count_96, o_al, o_ic, o_iret, nth_0, opV_1, al_6, ix_6, hc.a6, cats_nil, cats_cons, rf_s, rf_n, isR_r, isR_n, isR_rf, cat_i, cat_l, cat_r, cat_n, cat_rf, unl_i, unl_l, unl_r, unl_n, unl_j, unl_rf, orf_r, orf_n, orf_rf, rf_null, mA_pm, mL_pm, mP_pm, List.length_cons, List.length_nil, List.cons_append, List.nil_append, Nat.reduceAdd, Nat.reduceLeDiff, Nat.reduceLT, Nat.reduceEqDiff, Nat.zero_add, Nat.add_zero, Nat.le_refl, Nat.zero_le, true_and, and_true, true_or, or_true, false_or, or_false, reduceIte, hc.a6]
      refine sp_asksThatAre hc hd hA2 2 ?_
      simp only [o_al, o_ic, o_iret, nth_0, opV_1, al_6, ix_6, hc.a6, cats_nil, cats_cons, rf_s, rf_n, isR_r, isR_n, isR_rf, cat_i, cat_l, cat_r, cat_n, cat_rf, unl_i, unl_l, unl_r, unl_n, unl_j, unl_rf, orf_r, orf_n, orf_rf, rf_null, mA_pm, mL_pm, mP_pm, List.length_cons, List.length_nil, List.cons_append, List.nil_append, Nat.reduceAdd, Nat.reduceLeDiff, Nat.reduceLT, Nat.reduceEqDiff, Nat.zero_add, Nat.add_zero, Nat.le_refl, Nat.zero_le, true_and, and_true, true_or, or_true, false_or, or_false, reduceIte]
      exact H2 _ (e7 2)
    · show X 102 _ _ _ _ _
      apply h102
      simp only [B_X6_count_102, o_al, o_ic, o_iret, nth_0, opV_1, al_6, ix_6, hc.a6, cats_nil, cats_cons, rf_s, rf_n, isR_r, isR_n, isR_rf, cat_i, cat_l, cat_r, cat_n, cat_rf, unl_i, unl_l, unl_r, unl_n, unl_j, unl_rf, orf_r, orf_n, orf_rf, rf_null, mA_pm, mL_pm, mP_pm, List.length_cons, List.length_nil, List.cons_append, List.nil_append, Nat.reduceAdd, Nat.reduceLeDiff, Nat.reduceLT, Nat.reduceEqDiff, Nat.zero_add, Nat.add_zero, Nat.le_refl, Nat.zero_le, true_and, and_true, true_or, or_true, false_or, or_false, reduceIte, hc.a6]
      refine sp_asksThatAre hc hd hA2 3 ?_
      simp only [o_al, o_ic, o_iret, nth_0, opV_1, al_6, ix_6, hc.a6, cats_nil, cats_cons, rf_s, rf_n, isR_r, isR_n, isR_rf, cat_i, cat_l, cat_r, cat_n, cat_rf, unl_i, unl_l, unl_r, unl_n, unl_j, unl_rf, orf_r, orf_n, orf_rf, rf_null, mA_pm, mL_pm, mP_pm, List.length_cons, List.length_nil, List.cons_append, List.nil_append, Nat.reduceAdd, Nat.reduceLeDiff, Nat.reduceLT, Nat.reduceEqDiff, Nat.zero_add, Nat.add_zero, Nat.le_refl, Nat.zero_le, true_and, and_true, true_or, or_true, false_or, or_false, reduceIte]
      exact H2 _ (e7 3)
    · show X 108 _ _ _ _ _
      apply h108
      simp only [B_X6_count_108, o_al, o_gf, o_iret, nth_0, mV_6_16, al_6, cI_6, hc.a6, ix_6, cats_nil, cats_cons, rf_s, rf_n, isR_r, isR_n, isR_rf, cat_i, cat_l, cat_r, cat_n, cat_rf, unl_i, unl_l, unl_r, unl_n, unl_j, unl_rf, orf_r, orf_n, orf_rf, rf_null, mA_pm, mL_pm, mP_pm, List.length_cons, List.length_nil, List.cons_append, List.nil_append, Nat.reduceAdd, Nat.reduceLeDiff, Nat.reduceLT, Nat.reduceEqDiff, Nat.zero_add, Nat.add_zero, Nat.le_refl, Nat.zero_le, true_and, and_true, true_or, or_true, false_or, or_false, reduceIte, hc.a6]
      exact H2 _ hg.1
    · show X 113 _ _ _ _ _
      apply h113
      simp only [B_X6_count_113, o_al, o_gf, o_iret, nth_0, mV_6_17, al_6, cI_6, hc.a6, ix_6, cats_nil, cats_cons, rf_s, rf_n, isR_r, isR_n, isR_rf, cat_i, cat_l, cat_r, cat_n, cat_rf, unl_i, unl_l, unl_r, unl_n, unl_j, unl_rf, orf_r, orf_n, orf_rf, rf_null, mA_pm, mL_pm, mP_pm, List.length_cons, List.length_nil, List.cons_append, List.nil_append, Nat.reduceAdd, Nat.reduceLeDiff, Nat.reduceLT, Nat.reduceEqDiff, Nat.zero_add, Nat.add_zero, Nat.le_refl, Nat.zero_le, true_and, and_true, true_or, or_true, false_or, or_false, reduceIte, hc.a6]
      exact H2 _ hg.2
    · show X 118 _ _ _ _ _
      apply h118
      simp only [B_X6_count_118, o_al, o_gf, o_iret, nth_0, mV_6_6, al_6, hc.p6_6, hc.a6, ix_6, mV_4_4, al_4, cI_4, hc.a4, ix_4, cats_nil, cats_cons, rf_s, rf_n, isR_r, isR_n, isR_rf, cat_i, cat_l, cat_r, cat_n, cat_rf, unl_i, unl_l, unl_r, unl_n, unl_j, unl_rf, orf_r, orf_n, orf_rf, rf_null, mA_pm, mL_pm, mP_pm, List.length_cons, List.length_nil, List.cons_append, List.nil_append, Nat.reduceAdd, Nat.reduceLeDiff, Nat.reduceLT, Nat.reduceEqDiff, Nat.zero_add, Nat.add_zero, Nat.le_refl, Nat.zero_le, true_and, and_true, true_or, or_true, false_or, or_false, reduceIte, hc.a6, hc.a4, hc.p6_6]
      exact H2 _ (h4.trans hitem.symm)
    · show X 126 _ _ _ _ _
      apply h126
      simp only [B_X6_count_126, o_al, o_gf, o_ii, o_iret, nth_0, mV_6_3, al_6, hc.p6_3, hc.a6, ix_6, mV_0_2, al_0, cI_0, ix_0, mV_6_4, hc.p6_4, cats_nil, cats_cons, rf_s, rf_n, isR_r, isR_n, isR_rf, cat_i, cat_l, cat_r, cat_n, cat_rf, unl_i, unl_l, unl_r, unl_n, unl_j, unl_rf, orf_r, orf_n, orf_rf, rf_null, mA_pm, mL_pm, mP_pm, List.length_cons, List.length_nil, List.cons_append, List.nil_append, Nat.reduceAdd, Nat.reduceLeDiff, Nat.reduceLT, Nat.reduceEqDiff, Nat.zero_add, Nat.add_zero, Nat.le_refl, Nat.zero_le, true_and, and_true, true_or, or_true, false_or, or_false, reduceIte, hc.a6, hc.p6_3, hc.p6_4, hc.a0, hc.a1]
      exact H2 _ hgone
  · rw [e]
    apply h142
    simp only [B_X6_count_142, o_ic, o_iret, cats_nil, cats_cons, rf_s, rf_n, isR_r, isR_n, isR_rf, cat_i, cat_l, cat_r, cat_n, cat_rf, unl_i, unl_l, unl_r, unl_n, unl_j, unl_rf, orf_r, orf_n, orf_rf, rf_null, mA_pm, mL_pm, mP_pm, List.length_cons, List.length_nil, List.cons_append, List.nil_append, Nat.reduceAdd, Nat.reduceLeDiff, Nat.reduceLT, Nat.reduceEqDiff, Nat.zero_add, Nat.add_zero, Nat.le_refl, Nat.zero_le, true_and, and_true, true_or, or_true, false_or, or_false, reduceIte]
    refine H2 _ ?_
    rw [if_neg (show ¬ w = 0 from hn 0 (by omega)), if_neg (show ¬ w = 1 from hn 1 (by omega)), if_neg (show ¬ w = 2 from hn 2 (by omega)), if_neg (show ¬ w = 3 from hn 3 (by omega)), if_neg (show ¬ w = 4 from hn 4 (by omega)), if_neg (show ¬ w = 5 from hn 5 (by omega)), if_neg (show ¬ w = 6 from hn 6 (by omega)), if_neg (show ¬ w = 7 from hn 7 (by omega)), if_neg (show ¬ w = 8 from hn 8 (by omega)), if_neg (show ¬ w = 9 from hn 9 (by omega)), if_neg (show ¬ w = 10 from hn 10 (by omega)), if_neg (show ¬ w = 11 from hn 11 (by omega))]
end ZC34
