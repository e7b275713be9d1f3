/-! The model: an arm moves -/
def stepF (M : MD) (k : Nat) : Int32 := if goalF M k ≤ M.1 42 k then -1 else 1
def pushM (M : MD) (k : Nat) : MD := if M.1 42 (1 - k) = M.1 42 k + stepF M k then uI (uI M 42 (1 - k) (M.1 42 (1 - k) + stepF M k)) 7 41 (M.1 7 41 + 1) else M
def goM (M : MD) (k : Nat) : MD := uI (uI (pushM M k) 42 k (M.1 42 k + stepF M k)) 7 41 ((pushM M k).1 7 41 + 1)
def takeM (M : MD) (k t r : Nat) : MD := if M.1 81 k = 0 then (if M.1 36 r = 4 then uI (uI (uI M 80 k 1) 24 t 1) 37 r (-1) else uI (uI (uI (uI M 80 k 1) 24 t 1) 37 r (-1)) 36 r 0) else uI (uI M 80 k 1) 24 t 1
def putM (M : MD) (k t r nA : Nat) : MD := if M.1 81 k = 0 then uI (uI (uI M 43 k (-1)) 80 k 0) 24 t 0 else beginsM (uI (uI M 43 k (-1)) 80 k 0) r t nA
def movesM (M : MD) (k t r nA : Nat) : MD := if M.1 42 k = goalF M k then (if M.1 80 k = 0 then takeM M k t r else putM M k t r nA) else goM M k
section ZM10
variable {l : Launch} {D : DD} {d : Nat} {c : HP} {M : MD} {Q : List Value → HP → Prop}
theorem sp_moves (hs : SKM c) {nT nA k t r : Nat} (hA : M.1 7 8 = nI nA) (hA2 : nA ≤ 150) (hT2 : nT ≤ 12) (hk : k < 2) (ht : t < nT) (hr : r < 3) (h43 : M.1 43 k = nI t) (h46 : M.1 46 k = nI r) (hG : GA M nT nA) (hH : GH M nT) (H : ∀ M', SC (movesM M k t r nA) M' → Q [] (pm c M')) : K_X7_moves l D (d + 14) [.ref (ob 7 0), .int (nI k)] (pm c M) Q := by
  refine m_X7_moves (lsA := [.ref (ob 7 0), .int (nI k), jk, jk, jk, jk]) rfl (Nat.le_of_ble_eq_true rfl) ?_
  intro X h0 h25 h31 h56 h57 h106 h125 h166 h193 h194 h227 h234
  have ht2 : t < 12 := by omega
  have e1 : (1 : Int32) - nI k = nI (1 - k) := by rw [show (1 : Int32) = nI 1 from rfl, pk_sub (by omega)]
  have hk1 : 1 - k < 2 := by omega
  have hkk : ¬ k = 1 - k := by omega
  have k31 : X 31 [.ref (ob 7 0), .int (nI k), .int (nI t), jk, jk, jk] [.int (goalF M k)] (pm c M) 0 0 := by
    apply h31
    simp only [B_X7_moves_31, o_is, o_al, o_gf, o_il, o_iald, o_ic2, o_ic, lset_3, nth_0, nth_1, nth_3, mV_7_34, al_7, hs.a7, hs.p34, kd_42, ix_42, hs.l42, rm_42, wm_42, ix_7, cats_nil, cats_cons, rf_s, rf_n, isR_r, isR_n, isR_rf, cat_i, cat_l, cat_r, cat_n, cat_rf, unl_i, unl_l, unl_r, unl_n, unl_j, unl_rf, orf_r, orf_n, orf_rf, rf_null, mA_pm, mL_pm, mP_pm, List.length_cons, List.length_nil, List.cons_append, List.nil_append, Nat.reduceAdd, Nat.reduceLeDiff, Nat.reduceLT, Nat.reduceEqDiff, Nat.zero_add, Nat.add_zero, Nat.le_refl, Nat.zero_le, true_and, and_true, true_or, or_true, false_or, or_false, reduceIte, vin hk, ncl hk]
    refine ⟨fun q => ?_, fun q => ?_⟩
    · apply h125
      simp only [B_X7_moves_125, o_al, o_gf, o_il, o_iald, o_is, o_bald, o_if, o_ic, o_bast, o_iast, o_vret, nth_0, nth_1, lset_4, nth_2, mV_7_39, al_7, hs.a7, hs.p39, kd_46, ix_46, hs.l46, rm_46, wm_46, ix_7, mV_7_36, hs.p36, kd_80, ix_80, hs.l80, rm_80, wm_80, mV_7_6, hs.p6, kd_24, ix_24, hs.l24, rm_24, wm_24, mV_7_40, hs.p40, kd_81, ix_81, hs.l81, rm_81, wm_81, cats_nil, cats_cons, rf_s, rf_n, isR_r, isR_n, isR_rf, cat_i, cat_l, cat_r, cat_n, cat_rf, unl_i, unl_l, unl_r, unl_n, unl_j, unl_rf, orf_r, orf_n, orf_rf, rf_null, mA_pm, mL_pm, mP_pm, List.length_cons, List.length_nil, List.cons_append, List.nil_append, Nat.reduceAdd, Nat.reduceLeDiff, Nat.reduceLT, Nat.reduceEqDiff, Nat.zero_add, Nat.add_zero, Nat.le_refl, Nat.zero_le, true_and, and_true, true_or, or_true, false_or, or_false, reduceIte, vin hk, ncl hk, h46, vin hr, ncl hr, vin ht2, ncl ht2, uI_1, Nat.reduceEqDiff, false_and]
      refine ⟨fun z => ⟨fun z2 => ?_, fun z2 => H _ ?_⟩, fun z => ?_⟩
      · apply h166
        simp only [B_X7_moves_166, o_al, o_gf, o_il, o_ic, o_iast, o_iald, o_ic2, nth_0, nth_4, mV_7_29, al_7, hs.a7, hs.p29, kd_37, ix_37, hs.l37, rm_37, wm_37, ix_7, mV_7_28, hs.p28, kd_36, ix_36, hs.l36, rm_36, wm_36, cats_nil, cats_cons, rf_s, rf_n, isR_r, isR_n, isR_rf, cat_i, cat_l, cat_r, cat_n, cat_rf, unl_i, unl_l, unl_r, unl_n, unl_j, unl_rf, orf_r, orf_n, orf_rf, rf_null, mA_pm, mL_pm, mP_pm, List.length_cons, List.length_nil, List.cons_append, List.nil_append, Nat.reduceAdd, Nat.reduceLeDiff, Nat.reduceLT, Nat.reduceEqDiff, Nat.zero_add, Nat.add_zero, Nat.le_refl, Nat.zero_le, true_and, and_true, true_or, or_true, false_or, or_false, reduceIte, vin hr, ncl hr, uI_1, Nat.reduceEqDiff, false_and]
        refine ⟨fun z3 => ?_, fun z3 => ?_⟩
        · apply h193
          simp only [B_X7_moves_193, o_vret, cats_nil, cats_cons, rf_s, rf_n, isR_r, isR_n, isR_rf, cat_i, cat_l, cat_r, cat_n, cat_rf, unl_i, unl_l, unl_r, unl_n, unl_j, unl_rf, orf_r, orf_n, orf_rf, rf_null, mA_pm, mL_pm, mP_pm, List.length_cons, List.length_nil, List.cons_append, List.nil_append, Nat.reduceAdd, Nat.reduceLeDiff, Nat.reduceLT, Nat.reduceEqDiff, Nat.zero_add, Nat.add_zero, Nat.le_refl, Nat.zero_le, true_and, and_true, true_or, or_true, false_or, or_false, reduceIte]
          refine H _ ?_
          unfold movesM takeM
          rw [if_pos q, if_pos z, if_pos z2, if_pos z3]
          exact SC.rf _
        · apply h193
          simp only [B_X7_moves_193, o_vret, cats_nil, cats_cons, rf_s, rf_n, isR_r, isR_n, isR_rf, cat_i, cat_l, cat_r, cat_n, cat_rf, unl_i, unl_l, unl_r, unl_n, unl_j, unl_rf, orf_r, orf_n, orf_rf, rf_null, mA_pm, mL_pm, mP_pm, List.length_cons, List.length_nil, List.cons_append, List.nil_append, Nat.reduceAdd, Nat.reduceLeDiff, Nat.reduceLT, Nat.reduceEqDiff, Nat.zero_add, Nat.add_zero, Nat.le_refl, Nat.zero_le, true_and, and_true, true_or, or_true, false_or, or_false, reduceIte]
          refine H _ ?_
          unfold movesM takeM
          rw [if_pos q, if_pos z, if_pos z2, if_neg z3]
          exact SC.rf _
      · unfold movesM takeM
        rw [if_pos q, if_pos z, if_neg z2]
        exact SC.rf _
      · apply h194
        simp only [B_X7_moves_194, o_al, o_gf, o_il, o_ic, o_iast, o_bast, o_bald, o_if, nth_0, nth_1, nth_4, nth_2, opV_2, mV_7_35, al_7, hs.a7, hs.p35, kd_43, ix_43, hs.l43, rm_43, wm_43, ix_7, mV_7_36, hs.p36, kd_80, ix_80, hs.l80, rm_80, wm_80, mV_7_40, hs.p40, kd_81, ix_81, hs.l81, rm_81, wm_81, cats_nil, cats_cons, rf_s, rf_n, isR_r, isR_n, isR_rf, cat_i, cat_l, cat_r, cat_n, cat_rf, unl_i, unl_l, unl_r, unl_n, unl_j, unl_rf, orf_r, orf_n, orf_rf, rf_null, mA_pm, mL_pm, mP_pm, List.length_cons, List.length_nil, List.cons_append, List.nil_append, Nat.reduceAdd, Nat.reduceLeDiff, Nat.reduceLT, Nat.reduceEqDiff, Nat.zero_add, Nat.add_zero, Nat.le_refl, Nat.zero_le, true_and, and_true, true_or, or_true, false_or, or_false, reduceIte, vin hk, ncl hk, uI_1, Nat.reduceEqDiff, false_and]
        refine ⟨fun z2 => ?_, fun z2 => ?_⟩
        · apply h227
          simp only [B_X7_moves_227, o_al, o_gf, o_il, o_ic, o_iast, nth_0, nth_2, mV_7_6, al_7, hs.a7, hs.p6, kd_24, ix_24, hs.l24, rm_24, wm_24, ix_7, cats_nil, cats_cons, rf_s, rf_n, isR_r, isR_n, isR_rf, cat_i, cat_l, cat_r, cat_n, cat_rf, unl_i, unl_l, unl_r, unl_n, unl_j, unl_rf, orf_r, orf_n, orf_rf, rf_null, mA_pm, mL_pm, mP_pm, List.length_cons, List.length_nil, List.cons_append, List.nil_append, Nat.reduceAdd, Nat.reduceLeDiff, Nat.reduceLT, Nat.reduceEqDiff, Nat.zero_add, Nat.add_zero, Nat.le_refl, Nat.zero_le, true_and, and_true, true_or, or_true, false_or, or_false, reduceIte, vin ht2, ncl ht2]
          apply h234
          simp only [B_X7_moves_234, o_vret, cats_nil, cats_cons, rf_s, rf_n, isR_r, isR_n, isR_rf, cat_i, cat_l, cat_r, cat_n, cat_rf, unl_i, unl_l, unl_r, unl_n, unl_j, unl_rf, orf_r, orf_n, orf_rf, rf_null, mA_pm, mL_pm, mP_pm, List.length_cons, List.length_nil, List.cons_append, List.nil_append, Nat.reduceAdd, Nat.reduceLeDiff, Nat.reduceLT, Nat.reduceEqDiff, Nat.zero_add, Nat.add_zero, Nat.le_refl, Nat.zero_le, true_and, and_true, true_or, or_true, false_or, or_false, reduceIte]
          refine H _ ?_
          unfold movesM putM
          rw [if_pos q, if_neg z, if_pos z2]
          exact SC.rf _
        · have ag : AG M (uI (uI M 43 k (-1)) 80 k 0) := ((AG.rf M).w _ rfl).w _ rfl
          refine sp_begins (M := uI (uI M 43 k (-1)) 80 k 0) (nT := nT) (nA := nA) hs hA hA2 hT2 hr ht (GA_ag ag hG) (GH_ag ag hH) (fun M' g => ?_)
          simp only [o_al, o_gf, o_il, o_ic, o_iast, o_bast, o_bald, o_if, nth_0, nth_1, nth_4, nth_2, opV_2, mV_7_35, al_7, hs.a7, hs.p35, kd_43, ix_43, hs.l43, rm_43, wm_43, ix_7, mV_7_36, hs.p36, kd_80, ix_80, hs.l80, rm_80, wm_80, mV_7_40, hs.p40, kd_81, ix_81, hs.l81, rm_81, wm_81, cats_nil, cats_cons, rf_s, rf_n, isR_r, isR_n, isR_rf, cat_i, cat_l, cat_r, cat_n, cat_rf, unl_i, unl_l, unl_r, unl_n, unl_j, unl_rf, orf_r, orf_n, orf_rf, rf_null, mA_pm, mL_pm, mP_pm, List.length_cons, List.length_nil, List.cons_append, List.nil_append, Nat.reduceAdd, Nat.reduceLeDiff, Nat.reduceLT, Nat.reduceEqDiff, Nat.zero_add, Nat.add_zero, Nat.le_refl, Nat.zero_le, true_and, and_true, true_or, or_true, false_or, or_false, reduceIte]
          apply h234
          simp only [B_X7_moves_234, o_vret, cats_nil, cats_cons, rf_s, rf_n, isR_r, isR_n, isR_rf, cat_i, cat_l, cat_r, cat_n, cat_rf, unl_i, unl_l, unl_r, unl_n, unl_j, unl_rf, orf_r, orf_n, orf_rf, rf_null, mA_pm, mL_pm, mP_pm, List.length_cons, List.length_nil, List.cons_append, List.nil_append, Nat.reduceAdd, Nat.reduceLeDiff, Nat.reduceLT, Nat.reduceEqDiff, Nat.zero_add, Nat.add_zero, Nat.le_refl, Nat.zero_le, true_and, and_true, true_or, or_true, false_or, or_false, reduceIte]
          refine H _ ?_
          unfold movesM putM
          rw [if_pos q, if_neg z, if_neg z2]
          exact g
    · have k106 : X 106 [.ref (ob 7 0), .int (nI k), .int (nI t), .int (goalF M k), .int (stepF M k), .int (M.1 42 k + stepF M k)] [] (pm c (pushM M k)) 0 0 := by
        apply h106
        simp only [B_X7_moves_106, o_al, o_gf, o_il, o_iast, o_dup, o_ic, o_ii, o_pI, o_vret, nth_0, nth_1, nth_5, mV_7_34, al_7, hs.a7, hs.p34, kd_42, ix_42, hs.l42, rm_42, wm_42, ix_7, mV_7_41, rm_7, wm_7, wmJ_7, cats_nil, cats_cons, rf_s, rf_n, isR_r, isR_n, isR_rf, cat_i, cat_l, cat_r, cat_n, cat_rf, unl_i, unl_l, unl_r, unl_n, unl_j, unl_rf, orf_r, orf_n, orf_rf, rf_null, mA_pm, mL_pm, mP_pm, List.length_cons, List.length_nil, List.cons_append, List.nil_append, Nat.reduceAdd, Nat.reduceLeDiff, Nat.reduceLT, Nat.reduceEqDiff, Nat.zero_add, Nat.add_zero, Nat.le_refl, Nat.zero_le, true_and, and_true, true_or, or_true, false_or, or_false, reduceIte, vin hk, ncl hk, uI_1, Nat.reduceEqDiff, false_and]
        have e42 : (pushM M k).1 42 k = M.1 42 k := by
          unfold pushM
          split
          · rw [uI_1, if_neg (by omega), uI_1, if_neg (by omega)]
          · rfl
        refine H _ ?_
        unfold movesM goM
        rw [if_neg q]
        exact SC.rf _
      have k57 : X 57 [.ref (ob 7 0), .int (nI k), .int (nI t), .int (goalF M k), jk, jk] [.int (stepF M k)] (pm c M) 0 0 := by
        apply h57
        simp only [B_X7_moves_57, o_is, o_al, o_gf, o_il, o_iald, o_ii, o_ic, o_ic2, o_dup2, o_iast, o_dup, o_pI, lset_4, nth_0, nth_1, nth_4, lset_5, nth_5, mV_7_34, al_7, hs.a7, hs.p34, kd_42, ix_42, hs.l42, rm_42, wm_42, ix_7, mV_7_41, rm_7, wm_7, wmJ_7, cats_nil, cats_cons, rf_s, rf_n, isR_r, isR_n, isR_rf, cat_i, cat_l, cat_r, cat_n, cat_rf, unl_i, unl_l, unl_r, unl_n, unl_j, unl_rf, orf_r, orf_n, orf_rf, rf_null, mA_pm, mL_pm, mP_pm, List.length_cons, List.length_nil, List.cons_append, List.nil_append, Nat.reduceAdd, Nat.reduceLeDiff, Nat.reduceLT, Nat.reduceEqDiff, Nat.zero_add, Nat.add_zero, Nat.le_refl, Nat.zero_le, true_and, and_true, true_or, or_true, false_or, or_false, reduceIte, e1, vin hk, ncl hk, vin hk1, ncl hk1, uI_1, Nat.reduceEqDiff, false_and]
        unfold pushM at k106
        refine ⟨fun z => ?_, fun z => ?_⟩
        · rw [if_pos z] at k106
          exact k106
        · rw [if_neg z] at k106
          exact k106
      have k56 : stepF M k = (-1) → X 56 [.ref (ob 7 0), .int (nI k), .int (nI t), .int (goalF M k), jk, jk] [] (pm c M) 0 0 := by
        intro z
        apply h56
        simp only [B_X7_moves_56, o_ic, cats_nil, cats_cons, rf_s, rf_n, isR_r, isR_n, isR_rf, cat_i, cat_l, cat_r, cat_n, cat_rf, unl_i, unl_l, unl_r, unl_n, unl_j, unl_rf, orf_r, orf_n, orf_rf, rf_null, mA_pm, mL_pm, mP_pm, List.length_cons, List.length_nil, List.cons_append, List.nil_append, Nat.reduceAdd, Nat.reduceLeDiff, Nat.reduceLT, Nat.reduceEqDiff, Nat.zero_add, Nat.add_zero, Nat.le_refl, Nat.zero_le, true_and, and_true, true_or, or_true, false_or, or_false, reduceIte]
        rw [← z]
        exact k57
      refine ⟨fun z => k56 (if_pos z), fun z => ?_⟩
      have e : stepF M k = 1 := if_neg z
      rw [e] at k57
      exact k57
  apply h0
  simp only [B_X7_moves_0, o_al, o_gf, o_il, o_iald, o_is, o_bald, o_if, nth_0, nth_1, lset_2, mV_7_35, al_7, hs.a7, hs.p35, kd_43, ix_43, hs.l43, rm_43, wm_43, ix_7, mV_7_36, hs.p36, kd_80, ix_80, hs.l80, rm_80, wm_80, mV_7_38, hs.p38, kd_45, ix_45, hs.l45, rm_45, wm_45, cats_nil, cats_cons, rf_s, rf_n, isR_r, isR_n, isR_rf, cat_i, cat_l, cat_r, cat_n, cat_rf, unl_i, unl_l, unl_r, unl_n, unl_j, unl_rf, orf_r, orf_n, orf_rf, rf_null, mA_pm, mL_pm, mP_pm, List.length_cons, List.length_nil, List.cons_append, List.nil_append, Nat.reduceAdd, Nat.reduceLeDiff, Nat.reduceLT, Nat.reduceEqDiff, Nat.zero_add, Nat.add_zero, Nat.le_refl, Nat.zero_le, true_and, and_true, true_or, or_true, false_or, or_false, reduceIte, vin hk, ncl hk, h43]
  unfold goalF at k31
  refine ⟨fun q => ?_, fun q => ?_⟩
  · apply h25
    simp only [B_X7_moves_25, o_al, o_gf, o_il, o_iald, nth_0, nth_1, mV_7_37, al_7, hs.a7, hs.p37, kd_44, ix_44, hs.l44, rm_44, wm_44, ix_7, cats_nil, cats_cons, rf_s, rf_n, isR_r, isR_n, isR_rf, cat_i, cat_l, cat_r, cat_n, cat_rf, unl_i, unl_l, unl_r, unl_n, unl_j, unl_rf, orf_r, orf_n, orf_rf, rf_null, mA_pm, mL_pm, mP_pm, List.length_cons, List.length_nil, List.cons_append, List.nil_append, Nat.reduceAdd, Nat.reduceLeDiff, Nat.reduceLT, Nat.reduceEqDiff, Nat.zero_add, Nat.add_zero, Nat.le_refl, Nat.zero_le, true_and, and_true, true_or, or_true, false_or, or_false, reduceIte, vin hk, ncl hk]
    rw [if_pos q] at k31
    exact k31
  · rw [if_neg q] at k31
    exact k31
end ZM10
