/-! The class beside the model: what waits; the worthiest tape -/
def wcl (M : MD) (t k : Nat) : Bool := decide (M.1 26 k = nI t ∧ M.1 30 k = 0 ∧ ¬ M.1 25 k = 3)
def crd (M : MD) (t k : Nat) : Int32 := if M.1 26 k = nI t ∧ M.1 30 k = 0 ∧ ¬ M.1 25 k = 3 then (if M.1 25 k = 4 then 100 else 10) - M.1 29 k else 0
def CW (c : HP) (M : MD) (nT nA : Nat) : Prop := mI c 6 14 0 = nI (cn (fun k => decide (M.1 30 k = 0 ∧ ¬ M.1 25 k = 3)) nA) ∧ mI c 6 15 0 = nI (cn (fun k => decide (M.1 30 k = 0 ∧ M.1 25 k = 3)) nA) ∧ ∀ t, t < nT → mI c 5 7 t = nI (cn (wcl M t) nA) ∧ mI c 5 8 t = sm (crd M t) nA
theorem wor_id (M : MD) (t : Nat) : ∀ n, nI (cn (wcl M t) n) * M.1 7 9 + sm (crd M t) n = sm (worT M (nI t)) n
  | 0 => by
    show (0 : Int32) * M.1 7 9 + 0 = 0
    grind
  | n + 1 => by
    have h := wor_id M t n
    rw [nI_cn]
    show _ + (sm (crd M t) n + crd M t n) = sm (worT M (nI t)) n + worT M (nI t) n
    rw [← h]
    unfold crd worT wcl
    by_cases q : M.1 26 n = nI t ∧ M.1 30 n = 0 ∧ ¬ M.1 25 n = 3
    · rw [if_pos (decide_eq_true q), if_pos q, if_pos q]
      grind
    · rw [if_neg (by simpa using q), if_neg q, if_neg q]
      grind
theorem absF_far {a b : Nat} (ha : a < 1000000) (hb : b < 1000000) : absF (nI a - nI b) = farF (nI a) (nI b) := by
  unfold absF farF
  rw [absN ha hb]
  by_cases h : b ≤ a
  · rw [if_pos h]
    by_cases e : a ≤ b
    · rw [if_pos (show nI a ≤ nI b by rw [nI_le_iff]; exact e), pk_sub e, show a - b = 0 by omega, show b - a = 0 by omega]
    · rw [if_neg (show ¬ nI a ≤ nI b by rw [nI_le_iff]; exact e), pk_sub h]
  · rw [if_neg h, if_pos (show nI a ≤ nI b by rw [nI_le_iff]; omega), pk_sub (show a ≤ b by omega)]
theorem thr_lt {a w : Int32} (h : -1000 ≤ a) : a - 1 < w ↔ ¬ w < a := by
  have h1 := Int32.le_iff_toInt_le.mp h
  have h2 : (-1000 : Int32).toInt = -1000 := by decide
  have b1 := Int32.toInt_lt a
  have e : (a - 1).toInt = a.toInt - 1 := by
    rw [Int32.toInt_sub, show (1 : Int32).toInt = 1 by decide, Int.bmod_eq_of_le] <;> omega
  rw [Int32.lt_iff_toInt_lt, Int32.lt_iff_toInt_lt, e]
  omega
section ZC19
variable {l : Launch} {D : DD} {d : Nat} {c : HP} {M N : MD} {Q : List Value → HP → Prop}
def wcan (M : MD) (nA t : Nat) : Prop := hmP M t ∧ 0 < cn (wcl M t) nA
theorem sp_worthiestTape (hc : SKF c) {nT nR nA s : Nat} (hd : SKD c nT nR nA) (hT2 : nT ≤ 12) (hA2 : nA ≤ 150) (hT : CTp c M nT) (hW : CW c M nT nA) (hh : ∀ t, t < nT → ∃ h, h < 1000 ∧ M.1 20 t = nI h) (hs : s < 1000) (h10 : mI c 6 10 0 = M.1 7 9) (h11 : mI c 6 11 0 = M.1 7 10) (hth : -1000 ≤ M.1 7 10) (H : ∀ r, (∃ t, t < nT ∧ wcan M nA t ∧ ¬ worF M t (nI s) nA < M.1 7 10 ∧ (∀ j, j < nT → wcan M nA j → betP M (nI s) nA t j) ∧ r = nI t) ∨ ((∀ t, t < nT → wcan M nA t → worF M t (nI s) nA < M.1 7 10) ∧ r = -1) → Q [.int r] (pm c N)) : K_X6_worthiestTape l D (d + 2) [.ref (ob 6 0), .int (nI s)] (pm c N) Q := by
  refine m_X6_worthiestTape (lsA := [.ref (ob 6 0), .int (nI s), jk, jk, jk, jk, jk]) rfl (Nat.le_of_ble_eq_true rfl) ?_
  intro X h0 h12 h55 h79 h85
  have loop : ∀ m i (b mo : Int32) w5 w6, i + m = 12 → ((b = -1 ∧ mo = M.1 7 10 - 1 ∧ ∀ t, t < i → t < nT → wcan M nA t → worF M t (nI s) nA < M.1 7 10) ∨ (∃ u, u < i ∧ u < nT ∧ b = nI u ∧ wcan M nA u ∧ mo = worF M u (nI s) nA ∧ ¬ worF M u (nI s) nA < M.1 7 10 ∧ ∀ j, j < i → j < nT → wcan M nA j → betP M (nI s) nA u j)) → X 12 [.ref (ob 6 0), .int (nI s), .int b, .int mo, .int (nI i), w5, w6] [] (pm c N) 0 0 := by
    intro m
    induction m with
    | zero =>
      intro i b mo w5 w6 hi h
      obtain rfl : i = 12 := by omega
      apply h12
      simp only [B_X6_worthiestTape_12, o_il, o_al, o_gf, o_alen, o_ic2, o_aald, o_as, o_ifn, o_if, nth_4, nth_0, lset_5, nth_5, opV_0, mV_6_0, al_6, hc.p6_0, kd_96, ix_96, hc.l96, hc.a6, ix_6, mV_5_7, al_5, cI_5, ix_5, cats_nil, cats_cons, rf_s, rf_n, isR_r, isR_n, isR_rf, cat_i, cat_l, cat_r, cat_n, cat_rf, unl_i, unl_l, unl_r, unl_n, unl_j, unl_rf, orf_r, orf_n, orf_rf, rf_null, mA_pm, mL_pm, mP_pm, List.length_cons, List.length_nil, List.cons_append, List.nil_append, Nat.reduceAdd, Nat.reduceLeDiff, Nat.reduceLT, Nat.reduceEqDiff, Nat.zero_add, Nat.add_zero, Nat.le_refl, Nat.zero_le, true_and, and_true, true_or, or_true, false_or, or_false, reduceIte, ofN]
      refine ⟨fun _ => ?_, fun z => absurd (by decide) z⟩
      apply h85
      simp only [B_X6_worthiestTape_85, o_il, o_iret, nth_2, cats_nil, cats_cons, rf_s, rf_n, isR_r, isR_n, isR_rf, cat_i, cat_l, cat_r, cat_n, cat_rf, unl_i, unl_l, unl_r, unl_n, unl_j, unl_rf, orf_r, orf_n, orf_rf, rf_null, mA_pm, mL_pm, mP_pm, List.length_cons, List.length_nil, List.cons_append, List.nil_append, Nat.reduceAdd, Nat.reduceLeDiff, Nat.reduceLT, Nat.reduceEqDiff, Nat.zero_add, Nat.add_zero, Nat.le_refl, Nat.zero_le, true_and, and_true, true_or, or_true, false_or, or_false, reduceIte]
      rcases h with ⟨rfl, -, h⟩ | ⟨u, u1, u2, rfl, u3, -, u4, u5⟩
      · exact H _ (Or.inr ⟨fun t ht => h t (by omega) ht, rfl⟩)
      · exact H _ (Or.inl ⟨u, u2, u3, u4, fun j hj => u5 j (by omega) hj, rfl⟩)
    | succ m ih =>
      intro i b mo w5 w6 hi h
      have hi12 : i < 12 := by omega
      have k79 : ∀ (b mo : Int32) w5 w6, ((b = -1 ∧ mo = M.1 7 10 - 1 ∧ ∀ t, t < i + 1 → t < nT → wcan M nA t → worF M t (nI s) nA < M.1 7 10) ∨ (∃ u, u < i + 1 ∧ u < nT ∧ b = nI u ∧ wcan M nA u ∧ mo = worF M u (nI s) nA ∧ ¬ worF M u (nI s) nA < M.1 7 10 ∧ ∀ j, j < i + 1 → j < nT → wcan M nA j → betP M (nI s) nA u j)) → X 79 [.ref (ob 6 0), .int (nI s), .int b, .int mo, .int (nI i), w5, w6] [] (pm c N) 0 0 := by
        intro b mo w5 w6 q
        apply h79
        simp only [B_X6_worthiestTape_79, o_inc, nth_4, lset_4, cats_nil, cats_cons, rf_s, rf_n, isR_r, isR_n, isR_rf, cat_i, cat_l, cat_r, cat_n, cat_rf, unl_i, unl_l, unl_r, unl_n, unl_j, unl_rf, orf_r, orf_n, orf_rf, rf_null, mA_pm, mL_pm, mP_pm, List.length_cons, List.length_nil, List.cons_append, List.nil_append, Nat.reduceAdd, Nat.reduceLeDiff, Nat.reduceLT, Nat.reduceEqDiff, Nat.zero_add, Nat.add_zero, Nat.le_refl, Nat.zero_le, true_and, and_true, true_or, or_true, false_or, or_false, reduceIte, nI_1]
        exact ih (i + 1) b mo w5 w6 (by omega) q
      have kskip : ∀ w5 w6, (i < nT → ¬ wcan M nA i) → X 79 [.ref (ob 6 0), .int (nI s), .int b, .int mo, .int (nI i), w5, w6] [] (pm c N) 0 0 := by
        intro w5 w6 q
        refine k79 b mo w5 w6 ?_
        rcases h with ⟨h1, h2, h3⟩ | ⟨u, u1, u2, u3, u4, u5, u6, u7⟩
        · exact Or.inl ⟨h1, h2, nx h3 (fun z1 z2 => absurd z2 (q z1))⟩
        · exact Or.inr ⟨u, by omega, u2, u3, u4, u5, u6, nx u7 (fun z1 z2 => absurd z2 (q z1))⟩
      apply h12
      by_cases hn : i < nT
      · have ha := hd.2.2.2.1 i hn
        obtain ⟨w1, w2⟩ := hW.2.2 i hn
        obtain ⟨g0, -⟩ := hT i hn
        obtain ⟨hm, hm1, hm2⟩ := hh i hn
        have hcl := cn_le (wcl M i) nA
        simp only [B_X6_worthiestTape_12, o_il, o_al, o_gf, o_alen, o_ic2, o_aald, o_as, o_ifn, o_if, nth_4, nth_0, lset_5, nth_5, opV_0, mV_6_0, al_6, hc.p6_0, kd_96, ix_96, hc.l96, hc.a6, ix_6, mV_5_7, al_5, cI_5, ix_5, cats_nil, cats_cons, rf_s, rf_n, isR_r, isR_n, isR_rf, cat_i, cat_l, cat_r, cat_n, cat_rf, unl_i, unl_l, unl_r, unl_n, unl_j, unl_rf, orf_r, orf_n, orf_rf, rf_null, mA_pm, mL_pm, mP_pm, List.length_cons, List.length_nil, List.cons_append, List.nil_append, Nat.reduceAdd, Nat.reduceLeDiff, Nat.reduceLT, Nat.reduceEqDiff, Nat.zero_add, Nat.add_zero, Nat.le_refl, Nat.zero_le, true_and, and_true, true_or, or_true, false_or, or_false, reduceIte, ofN, vin hi12, ncl hi12, hd.1 i hi12, if_pos hn, ha, rnn, false_imp_iff, not_false_eq_true, true_imp_iff, al_5]
        refine ⟨fun z => absurd z (by rw [nI_le_iff]; omega), fun _ => ?_⟩
        refine sp_isFree ha ?_
        simp only [o_il, o_al, o_gf, o_alen, o_ic2, o_aald, o_as, o_ifn, o_if, nth_4, nth_0, lset_5, nth_5, opV_0, mV_6_0, al_6, hc.p6_0, kd_96, ix_96, hc.l96, hc.a6, ix_6, mV_5_7, al_5, cI_5, ix_5, cats_nil, cats_cons, rf_s, rf_n, isR_r, isR_n, isR_rf, cat_i, cat_l, cat_r, cat_n, cat_rf, unl_i, unl_l, unl_r, unl_n, unl_j, unl_rf, orf_r, orf_n, orf_rf, rf_null, mA_pm, mL_pm, mP_pm, List.length_cons, List.length_nil, List.cons_append, List.nil_append, Nat.reduceAdd, Nat.reduceLeDiff, Nat.reduceLT, Nat.reduceEqDiff, Nat.zero_add, Nat.add_zero, Nat.le_refl, Nat.zero_le, true_and, and_true, true_or, or_true, false_or, or_false, reduceIte, ha, w1]
        refine ⟨fun q => kskip _ _ (fun _ z => bi_e0 q ((CTp_free hT hn).mpr z.1)), fun q => ⟨fun q2 => kskip _ _ (fun _ z => ?_), fun q2 => ?_⟩⟩
        · rw [show (0 : Int32) = nI 0 from rfl, nI_eq_iff] at q2
          have := z.2
          omega
        · have hcan : wcan M nA i := ⟨(CTp_free hT hn).mp (bi_ne0 q), by
            rcases Nat.eq_zero_or_pos (cn (wcl M i) nA) with z | z
            · exact absurd (by rw [z]; rfl) q2
            · exact z⟩
          apply h55
          simp only [B_X6_worthiestTape_55, o_al, o_gf, o_il, o_is, o_ic2, nth_5, nth_0, nth_1, lset_6, nth_6, nth_3, nth_4, lset_2, lset_3, opV_2, mV_6_10, al_6, cI_6, hc.a6, ix_6, al_5, ix_5, cats_nil, cats_cons, rf_s, rf_n, isR_r, isR_n, isR_rf, cat_i, cat_l, cat_r, cat_n, cat_rf, unl_i, unl_l, unl_r, unl_n, unl_j, unl_rf, orf_r, orf_n, orf_rf, rf_null, mA_pm, mL_pm, mP_pm, List.length_cons, List.length_nil, List.cons_append, List.nil_append, Nat.reduceAdd, Nat.reduceLeDiff, Nat.reduceLT, Nat.reduceEqDiff, Nat.zero_add, Nat.add_zero, Nat.le_refl, Nat.zero_le, true_and, and_true, true_or, or_true, false_or, or_false, reduceIte, ha, al_5, h10]
          refine sp_worth5 ha _ _ ?_
          have ew : mI c 5 7 i * M.1 7 9 + mI c 5 8 i - 2 * absF (mI c 5 0 i - nI s) = worF M i (nI s) nA := by
            rw [w1, w2, wor_id, g0, hm2, absF_far (by omega) (by omega)]
            unfold worF
            rw [hm2]
            grind
          rw [ew]
          simp only [o_al, o_gf, o_il, o_is, o_ic2, nth_5, nth_0, nth_1, lset_6, nth_6, nth_3, nth_4, lset_2, lset_3, opV_2, mV_6_10, al_6, cI_6, hc.a6, ix_6, al_5, ix_5, cats_nil, cats_cons, rf_s, rf_n, isR_r, isR_n, isR_rf, cat_i, cat_l, cat_r, cat_n, cat_rf, unl_i, unl_l, unl_r, unl_n, unl_j, unl_rf, orf_r, orf_n, orf_rf, rf_null, mA_pm, mL_pm, mP_pm, List.length_cons, List.length_nil, List.cons_append, List.nil_append, Nat.reduceAdd, Nat.reduceLeDiff, Nat.reduceLT, Nat.reduceEqDiff, Nat.zero_add, Nat.add_zero, Nat.le_refl, Nat.zero_le, true_and, and_true, true_or, or_true, false_or, or_false, reduceIte]
          rcases h with ⟨rfl, rfl, h3⟩ | ⟨u, u1, u2, rfl, u4, rfl, u6, u7⟩
          · refine ⟨fun q3 => k79 _ _ _ _ (Or.inl ⟨rfl, rfl, nx h3 (fun _ _ => ?_)⟩), fun q3 => k79 _ _ _ _ (Or.inr ⟨i, by omega, hn, rfl, hcan, rfl, ?_, nx (fun j hj z1 z2 => ?_) (fun _ _ => betP_rf _ _ _ _)⟩)⟩
            · exact Decidable.byContradiction fun z => absurd q3 (Int32.not_le.mpr ((thr_lt hth).mpr z))
            · exact (thr_lt hth).mp (Int32.not_le.mp q3)
            · have z3 := (thr_lt hth).mp (Int32.not_le.mp q3)
              exact Or.inl (Int32.lt_of_lt_of_le (h3 j hj z1 z2) (Int32.not_lt.mp z3))
          · refine ⟨fun q3 => k79 _ _ _ _ (Or.inr ⟨u, by omega, u2, rfl, u4, rfl, u6, nx u7 (fun _ _ => ?_)⟩), fun q3 => k79 _ _ _ _ (Or.inr ⟨i, by omega, hn, rfl, hcan, rfl, ?_, nx (fun j hj z1 z2 => ?_) (fun _ _ => betP_rf _ _ _ _)⟩)⟩
            · rcases lt_or_eq32 (Int32.not_lt.mpr q3) with z | z
              · exact Or.inl z
              · exact Or.inr ⟨z, by omega⟩
            · exact fun z => u6 (Int32.lt_trans (Int32.not_le.mp q3) z)
            · exact betP_tr (Or.inl (Int32.not_le.mp q3)) (u7 j hj z1 z2)
      · simp only [B_X6_worthiestTape_12, o_il, o_al, o_gf, o_alen, o_ic2, o_aald, o_as, o_ifn, o_if, nth_4, nth_0, lset_5, nth_5, opV_0, mV_6_0, al_6, hc.p6_0, kd_96, ix_96, hc.l96, hc.a6, ix_6, mV_5_7, al_5, cI_5, ix_5, cats_nil, cats_cons, rf_s, rf_n, isR_r, isR_n, isR_rf, cat_i, cat_l, cat_r, cat_n, cat_rf, unl_i, unl_l, unl_r, unl_n, unl_j, unl_rf, orf_r, orf_n, orf_rf, rf_null, mA_pm, mL_pm, mP_pm, List.length_cons, List.length_nil, List.cons_append, List.nil_append, Nat.reduceAdd, Nat.reduceLeDiff, Nat.reduceLT, Nat.reduceEqDiff, Nat.zero_add, Nat.add_zero, Nat.le_refl, Nat.zero_le, true_and, and_true, true_or, or_true, false_or, or_false, reduceIte, ofN, vin hi12, ncl hi12, hd.1 i hi12, if_neg hn]
        refine ⟨fun z => absurd z (by rw [nI_le_iff]; omega), fun _ => ⟨fun _ => kskip _ _ (fun z => absurd z hn), fun z => by first | exact absurd rfl z | exact absurd trivial z⟩⟩
  apply h0
  simp only [B_X6_worthiestTape_0, o_ic, o_is, o_al, o_gf, o_ii, lset_2, nth_0, lset_3, lset_4, mV_6_11, al_6, cI_6, hc.a6, ix_6, cats_nil, cats_cons, rf_s, rf_n, isR_r, isR_n, isR_rf, cat_i, cat_l, cat_r, cat_n, cat_rf, unl_i, unl_l, unl_r, unl_n, unl_j, unl_rf, orf_r, orf_n, orf_rf, rf_null, mA_pm, mL_pm, mP_pm, List.length_cons, List.length_nil, List.cons_append, List.nil_append, Nat.reduceAdd, Nat.reduceLeDiff, Nat.reduceLT, Nat.reduceEqDiff, Nat.zero_add, Nat.add_zero, Nat.le_refl, Nat.zero_le, true_and, and_true, true_or, or_true, false_or, or_false, reduceIte, h11]
  exact loop 12 0 _ _ _ _ (by omega) (Or.inl ⟨rfl, rfl, fun t ht => by omega⟩)
end ZC19
