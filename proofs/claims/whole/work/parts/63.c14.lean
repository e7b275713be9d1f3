/-! The class: may, free, take, what is an ask -/
def mayC (c : HP) (j o : Nat) (a b : Int32) : Prop := mI c 0 3 o = -1 ∨ (if mI c 0 0 j = 0 then hi3 (mI c 0 1 o) (nsF c o) (mI c 0 6 o) < lo3 (mI c 0 1 j) a b else hi3 (mI c 0 1 j) a b < lo3 (mI c 0 1 o) (nsF c o) (mI c 0 6 o))
def taC (c : HP) (j t k : Nat) : HP := if mI c 0 7 j = 0 then wI (wI c 0 8 j 1) 5 5 t 1 else if mI c 3 2 k = 3 then wI (wI (wI (wI c 0 8 j 1) 5 5 t 1) 3 3 k (-1)) 3 2 k 0 else wI (wI (wI c 0 8 j 1) 5 5 t 1) 3 3 k (-1)
def askOK (k a b : Int32) (p : Nat) : Prop := (0 ≤ k ∧ k ≤ 4) ∧ (if k = 3 then ¬ a < 0 else (∃ i, i < p ∧ a = nI i) ∧ (k = 1 → a ≤ b ∧ ∃ i, i < p ∧ b = nI i))
section ZC14
variable {l : Launch} {D : DD} {d : Nat} {c : HP} {M : MD} {Q : List Value → HP → Prop}
theorem sp_may6 {j o : Nat} (ha : mA c 0 j = true) (hb : mA c 0 o = true) (a b : Int32) (H : ∀ r : Int32, (r = 1 ∧ mayC c j o a b) ∨ (r = 0 ∧ ¬ mayC c j o a b) → Q [.int r] (pm c M)) : K_X6_may l D (d + 3) [.ref (ob 0 j), .ref (ob 0 o), .int a, .int b] (pm c M) Q := by
  refine m_X6_may (lsA := [.ref (ob 0 j), .ref (ob 0 o), .int a, .int b, jk, jk]) rfl (Nat.le_of_ble_eq_true rfl) ?_
  intro X h0 h9 h57 h61 h74 h75
  have k75 : ∀ (r : Int32) ls, (r = 1 ∧ mayC c j o a b) ∨ (r = 0 ∧ ¬ mayC c j o a b) → X 75 ls [.int r] (pm c M) 0 0 := by
    intro r ls hr
    apply h75
    simp only [B_X6_may_75, o_zret, cats_nil, cats_cons, rf_s, rf_n, isR_r, isR_n, isR_rf, cat_i, cat_l, cat_r, cat_n, cat_rf, unl_i, unl_l, unl_r, unl_n, unl_j, unl_rf, orf_r, orf_n, orf_rf, rf_null, mA_pm, mL_pm, mP_pm, List.length_cons, List.length_nil, List.cons_append, List.nil_append, Nat.reduceAdd, Nat.reduceLeDiff, Nat.reduceLT, Nat.reduceEqDiff, Nat.zero_add, Nat.add_zero, Nat.le_refl, Nat.zero_le, true_and, and_true, true_or, or_true, false_or, or_false, reduceIte]
    exact ⟨by rcases hr with ⟨rfl, -⟩ | ⟨rfl, -⟩ <;> simp, H r hr⟩
  apply h0
  simp only [B_X6_may_0, o_al, o_if, o_ic, o_zret, nth_1, opV_0, al_0, ix_0, cats_nil, cats_cons, rf_s, rf_n, isR_r, isR_n, isR_rf, cat_i, cat_l, cat_r, cat_n, cat_rf, unl_i, unl_l, unl_r, unl_n, unl_j, unl_rf, orf_r, orf_n, orf_rf, rf_null, mA_pm, mL_pm, mP_pm, List.length_cons, List.length_nil, List.cons_append, List.nil_append, Nat.reduceAdd, Nat.reduceLeDiff, Nat.reduceLT, Nat.reduceEqDiff, Nat.zero_add, Nat.add_zero, Nat.le_refl, Nat.zero_le, true_and, and_true, true_or, or_true, false_or, or_false, reduceIte, hb]
  refine sp_aJob hb ?_
  simp only [o_al, o_if, o_ic, o_zret, nth_1, opV_0, al_0, ix_0, cats_nil, cats_cons, rf_s, rf_n, isR_r, isR_n, isR_rf, cat_i, cat_l, cat_r, cat_n, cat_rf, unl_i, unl_l, unl_r, unl_n, unl_j, unl_rf, orf_r, orf_n, orf_rf, rf_null, mA_pm, mL_pm, mP_pm, List.length_cons, List.length_nil, List.cons_append, List.nil_append, Nat.reduceAdd, Nat.reduceLeDiff, Nat.reduceLT, Nat.reduceEqDiff, Nat.zero_add, Nat.add_zero, Nat.le_refl, Nat.zero_le, true_and, and_true, true_or, or_true, false_or, or_false, reduceIte]
  refine ⟨fun q => H 1 (Or.inl ⟨rfl, Or.inl ?_⟩), fun q => ?_⟩
  · exact Decidable.not_not.mp (bi_e0 q)
  · have q' : ¬ mI c 0 3 o = -1 := bi_ne0 q
    apply h9
    simp only [B_X6_may_9, o_al, o_gf, o_il, o_m2, o_is, o_if, o_ic2, o_ic, nth_0, nth_2, nth_3, lset_4, lset_5, nth_5, nth_1, opV_0, mV_0_1, al_0, cI_0, ix_0, mV_0_0, cats_nil, cats_cons, rf_s, rf_n, isR_r, isR_n, isR_rf, cat_i, cat_l, cat_r, cat_n, cat_rf, unl_i, unl_l, unl_r, unl_n, unl_j, unl_rf, orf_r, orf_n, orf_rf, rf_null, mA_pm, mL_pm, mP_pm, List.length_cons, List.length_nil, List.cons_append, List.nil_append, Nat.reduceAdd, Nat.reduceLeDiff, Nat.reduceLT, Nat.reduceEqDiff, Nat.zero_add, Nat.add_zero, Nat.le_refl, Nat.zero_le, true_and, and_true, true_or, or_true, false_or, or_false, reduceIte, ha, hb]
    refine ⟨fun z => ?_, fun z => ?_⟩
    · apply h61
      simp only [B_X6_may_61, o_il, o_al, o_ic2, o_ic, nth_4, nth_1, opV_0, al_0, ix_0, cats_nil, cats_cons, rf_s, rf_n, isR_r, isR_n, isR_rf, cat_i, cat_l, cat_r, cat_n, cat_rf, unl_i, unl_l, unl_r, unl_n, unl_j, unl_rf, orf_r, orf_n, orf_rf, rf_null, mA_pm, mL_pm, mP_pm, List.length_cons, List.length_nil, List.cons_append, List.nil_append, Nat.reduceAdd, Nat.reduceLeDiff, Nat.reduceLT, Nat.reduceEqDiff, Nat.zero_add, Nat.add_zero, Nat.le_refl, Nat.zero_le, true_and, and_true, true_or, or_true, false_or, or_false, reduceIte, ha, hb]
      refine sp_greatest hb ?_
      simp only [o_il, o_al, o_ic2, o_ic, nth_4, nth_1, opV_0, al_0, ix_0, cats_nil, cats_cons, rf_s, rf_n, isR_r, isR_n, isR_rf, cat_i, cat_l, cat_r, cat_n, cat_rf, unl_i, unl_l, unl_r, unl_n, unl_j, unl_rf, orf_r, orf_n, orf_rf, rf_null, mA_pm, mL_pm, mP_pm, List.length_cons, List.length_nil, List.cons_append, List.nil_append, Nat.reduceAdd, Nat.reduceLeDiff, Nat.reduceLT, Nat.reduceEqDiff, Nat.zero_add, Nat.add_zero, Nat.le_refl, Nat.zero_le, true_and, and_true, true_or, or_true, false_or, or_false, reduceIte]
      refine ⟨fun z2 => ?_, fun z2 => k75 1 _ (Or.inl ⟨rfl, Or.inr ?_⟩)⟩
      · apply h74
        simp only [B_X6_may_74, o_ic, cats_nil, cats_cons, rf_s, rf_n, isR_r, isR_n, isR_rf, cat_i, cat_l, cat_r, cat_n, cat_rf, unl_i, unl_l, unl_r, unl_n, unl_j, unl_rf, orf_r, orf_n, orf_rf, rf_null, mA_pm, mL_pm, mP_pm, List.length_cons, List.length_nil, List.cons_append, List.nil_append, Nat.reduceAdd, Nat.reduceLeDiff, Nat.reduceLT, Nat.reduceEqDiff, Nat.zero_add, Nat.add_zero, Nat.le_refl, Nat.zero_le, true_and, and_true, true_or, or_true, false_or, or_false, reduceIte]
        refine k75 0 _ (Or.inr ⟨rfl, ?_⟩)
        rintro (y | y)
        · exact q' y
        · rw [if_pos z] at y
          exact absurd y (Int32.not_lt.mpr z2)
      · rw [if_pos z]
        exact Int32.not_le.mp z2
    · refine sp_least hb ?_
      simp only [o_al, o_gf, o_il, o_m2, o_is, o_if, o_ic2, o_ic, nth_0, nth_2, nth_3, lset_4, lset_5, nth_5, nth_1, opV_0, mV_0_1, al_0, cI_0, ix_0, mV_0_0, cats_nil, cats_cons, rf_s, rf_n, isR_r, isR_n, isR_rf, cat_i, cat_l, cat_r, cat_n, cat_rf, unl_i, unl_l, unl_r, unl_n, unl_j, unl_rf, orf_r, orf_n, orf_rf, rf_null, mA_pm, mL_pm, mP_pm, List.length_cons, List.length_nil, List.cons_append, List.nil_append, Nat.reduceAdd, Nat.reduceLeDiff, Nat.reduceLT, Nat.reduceEqDiff, Nat.zero_add, Nat.add_zero, Nat.le_refl, Nat.zero_le, true_and, and_true, true_or, or_true, false_or, or_false, reduceIte]
      refine ⟨fun z2 => ?_, fun z2 => k75 1 _ (Or.inl ⟨rfl, Or.inr ?_⟩)⟩
      · apply h57
        simp only [B_X6_may_57, o_ic, cats_nil, cats_cons, rf_s, rf_n, isR_r, isR_n, isR_rf, cat_i, cat_l, cat_r, cat_n, cat_rf, unl_i, unl_l, unl_r, unl_n, unl_j, unl_rf, orf_r, orf_n, orf_rf, rf_null, mA_pm, mL_pm, mP_pm, List.length_cons, List.length_nil, List.cons_append, List.nil_append, Nat.reduceAdd, Nat.reduceLeDiff, Nat.reduceLT, Nat.reduceEqDiff, Nat.zero_add, Nat.add_zero, Nat.le_refl, Nat.zero_le, true_and, and_true, true_or, or_true, false_or, or_false, reduceIte]
        refine k75 0 _ (Or.inr ⟨rfl, ?_⟩)
        rintro (y | y)
        · exact q' y
        · rw [if_neg z] at y
          exact absurd y (Int32.not_lt.mpr z2)
      · rw [if_neg z]
        exact Int32.not_le.mp z2
theorem sp_isFree6 (hc : SKF c) {nT nR nA : Nat} (hd : SKD c nT nR nA) (hT2 : nT ≤ 12) (x : Int32) (H : ∀ r : Int32, (r = 1 ∧ ∃ t, t < nT ∧ x = nI t ∧ mI c 5 5 t = 0 ∧ mI c 5 6 t = 0) ∨ (r = 0 ∧ ∀ t, t < nT → x = nI t → ¬ (mI c 5 5 t = 0 ∧ mI c 5 6 t = 0)) → Q [.int r] (pm c M)) : K_X6_isFree l D (d + 2) [.ref (ob 6 0), .int x] (pm c M) Q := by
  refine m_X6_isFree (lsA := [.ref (ob 6 0), .int x, jk]) rfl (Nat.le_of_ble_eq_true rfl) ?_
  intro X h0 h21 h22
  have k21 : ∀ ls, (∀ t, t < nT → x = nI t → ¬ (mI c 5 5 t = 0 ∧ mI c 5 6 t = 0)) → X 21 ls [] (pm c M) 0 0 := by
    intro ls q
    apply h21
    simp only [B_X6_isFree_21, o_ic, cats_nil, cats_cons, rf_s, rf_n, isR_r, isR_n, isR_rf, cat_i, cat_l, cat_r, cat_n, cat_rf, unl_i, unl_l, unl_r, unl_n, unl_j, unl_rf, orf_r, orf_n, orf_rf, rf_null, mA_pm, mL_pm, mP_pm, List.length_cons, List.length_nil, List.cons_append, List.nil_append, Nat.reduceAdd, Nat.reduceLeDiff, Nat.reduceLT, Nat.reduceEqDiff, Nat.zero_add, Nat.add_zero, Nat.le_refl, Nat.zero_le, true_and, and_true, true_or, or_true, false_or, or_false, reduceIte]
    apply h22
    simp only [B_X6_isFree_22, o_zret, cats_nil, cats_cons, rf_s, rf_n, isR_r, isR_n, isR_rf, cat_i, cat_l, cat_r, cat_n, cat_rf, unl_i, unl_l, unl_r, unl_n, unl_j, unl_rf, orf_r, orf_n, orf_rf, rf_null, mA_pm, mL_pm, mP_pm, List.length_cons, List.length_nil, List.cons_append, List.nil_append, Nat.reduceAdd, Nat.reduceLeDiff, Nat.reduceLT, Nat.reduceEqDiff, Nat.zero_add, Nat.add_zero, Nat.le_refl, Nat.zero_le, true_and, and_true, true_or, or_true, false_or, or_false, reduceIte]
    exact H 0 (Or.inr ⟨rfl, q⟩)
  apply h0
  simp only [B_X6_isFree_0, o_al, o_il, o_as, o_ifn, o_if, o_ic, nth_0, nth_1, lset_2, nth_2, opV_1, opV_0, al_6, ix_6, hc.a6, al_5, ix_5, cats_nil, cats_cons, rf_s, rf_n, isR_r, isR_n, isR_rf, cat_i, cat_l, cat_r, cat_n, cat_rf, unl_i, unl_l, unl_r, unl_n, unl_j, unl_rf, orf_r, orf_n, orf_rf, rf_null, mA_pm, mL_pm, mP_pm, List.length_cons, List.length_nil, List.cons_append, List.nil_append, Nat.reduceAdd, Nat.reduceLeDiff, Nat.reduceLT, Nat.reduceEqDiff, Nat.zero_add, Nat.add_zero, Nat.le_refl, Nat.zero_le, true_and, and_true, true_or, or_true, false_or, or_false, reduceIte]
  refine sp_tapeAt hc hd hT2 x (fun r hr => ?_)
  rcases hr with ⟨t, ht, rfl, rfl⟩ | ⟨hn, rfl⟩
  · have ha := hd.2.2.2.1 t ht
    simp only [o_al, o_il, o_as, o_ifn, o_if, o_ic, nth_0, nth_1, lset_2, nth_2, opV_1, opV_0, al_6, ix_6, hc.a6, al_5, ix_5, cats_nil, cats_cons, rf_s, rf_n, isR_r, isR_n, isR_rf, cat_i, cat_l, cat_r, cat_n, cat_rf, unl_i, unl_l, unl_r, unl_n, unl_j, unl_rf, orf_r, orf_n, orf_rf, rf_null, mA_pm, mL_pm, mP_pm, List.length_cons, List.length_nil, List.cons_append, List.nil_append, Nat.reduceAdd, Nat.reduceLeDiff, Nat.reduceLT, Nat.reduceEqDiff, Nat.zero_add, Nat.add_zero, Nat.le_refl, Nat.zero_le, true_and, and_true, true_or, or_true, false_or, or_false, reduceIte, ha, al_5, rnn, false_imp_iff, not_false_eq_true, true_imp_iff]
    refine sp_isFree ha ?_
    simp only [o_al, o_il, o_as, o_ifn, o_if, o_ic, nth_0, nth_1, lset_2, nth_2, opV_1, opV_0, al_6, ix_6, hc.a6, al_5, ix_5, cats_nil, cats_cons, rf_s, rf_n, isR_r, isR_n, isR_rf, cat_i, cat_l, cat_r, cat_n, cat_rf, unl_i, unl_l, unl_r, unl_n, unl_j, unl_rf, orf_r, orf_n, orf_rf, rf_null, mA_pm, mL_pm, mP_pm, List.length_cons, List.length_nil, List.cons_append, List.nil_append, Nat.reduceAdd, Nat.reduceLeDiff, Nat.reduceLT, Nat.reduceEqDiff, Nat.zero_add, Nat.add_zero, Nat.le_refl, Nat.zero_le, true_and, and_true, true_or, or_true, false_or, or_false, reduceIte]
    refine ⟨fun q => k21 _ (fun t' h1 h2 => ?_), fun q => ?_⟩
    · rw [nI_eq_iff] at h2
      rw [← h2]
      exact bi_e0 q
    · apply h22
      simp only [B_X6_isFree_22, o_zret, cats_nil, cats_cons, rf_s, rf_n, isR_r, isR_n, isR_rf, cat_i, cat_l, cat_r, cat_n, cat_rf, unl_i, unl_l, unl_r, unl_n, unl_j, unl_rf, orf_r, orf_n, orf_rf, rf_null, mA_pm, mL_pm, mP_pm, List.length_cons, List.length_nil, List.cons_append, List.nil_append, Nat.reduceAdd, Nat.reduceLeDiff, Nat.reduceLT, Nat.reduceEqDiff, Nat.zero_add, Nat.add_zero, Nat.le_refl, Nat.zero_le, true_and, and_true, true_or, or_true, false_or, or_false, reduceIte]
      exact H 1 (Or.inl ⟨rfl, t, ht, rfl, bi_ne0 q⟩)
  · simp only [o_al, o_il, o_as, o_ifn, o_if, o_ic, nth_0, nth_1, lset_2, nth_2, opV_1, opV_0, al_6, ix_6, hc.a6, al_5, ix_5, cats_nil, cats_cons, rf_s, rf_n, isR_r, isR_n, isR_rf, cat_i, cat_l, cat_r, cat_n, cat_rf, unl_i, unl_l, unl_r, unl_n, unl_j, unl_rf, orf_r, orf_n, orf_rf, rf_null, mA_pm, mL_pm, mP_pm, List.length_cons, List.length_nil, List.cons_append, List.nil_append, Nat.reduceAdd, Nat.reduceLeDiff, Nat.reduceLT, Nat.reduceEqDiff, Nat.zero_add, Nat.add_zero, Nat.le_refl, Nat.zero_le, true_and, and_true, true_or, or_true, false_or, or_false, reduceIte]
    exact ⟨fun _ => k21 _ (fun t h1 h2 => absurd h2 (hn t h1)), fun z => by first | exact absurd rfl z | exact absurd trivial z⟩
theorem sp_take {j t k : Nat} (ha : mA c 0 j = true) (ht : mA c 5 t = true) (hk : mA c 3 k = true) (H : Q [] (pm (taC c j t k) M)) : K_X6_take l D (d + 1) [.ref (ob 0 j), .ref (ob 5 t), .ref (ob 3 k)] (pm c M) Q := by
  refine m_X6_take (lsA := [.ref (ob 0 j), .ref (ob 5 t), .ref (ob 3 k)]) rfl (Nat.le_of_ble_eq_true rfl) ?_
  intro X h0 h35
  have k35 : ∀ c', c' = taC c j t k → ∀ ls, X 35 ls [] (pm c' M) 0 0 := by
    intro c' e ls
    apply h35
    simp only [B_X6_take_35, o_vret, cats_nil, cats_cons, rf_s, rf_n, isR_r, isR_n, isR_rf, cat_i, cat_l, cat_r, cat_n, cat_rf, unl_i, unl_l, unl_r, unl_n, unl_j, unl_rf, orf_r, orf_n, orf_rf, rf_null, mA_pm, mL_pm, mP_pm, List.length_cons, List.length_nil, List.cons_append, List.nil_append, Nat.reduceAdd, Nat.reduceLeDiff, Nat.reduceLT, Nat.reduceEqDiff, Nat.zero_add, Nat.add_zero, Nat.le_refl, Nat.zero_le, true_and, and_true, true_or, or_true, false_or, or_false, reduceIte]
    rw [e]
    exact H
  unfold taC at k35
  apply h0
  simp only [B_X6_take_0, o_al, o_ic, o_pZ, o_pI, o_gf, o_if, o_ic2, nth_0, nth_1, nth_2, mV_0_7, al_0, cI_0, ix_0, mV_3_2, al_3, cI_3, ix_3, cw_0, al_5, ix_5, cw_5, cw_3, cats_nil, cats_cons, rf_s, rf_n, isR_r, isR_n, isR_rf, cat_i, cat_l, cat_r, cat_n, cat_rf, unl_i, unl_l, unl_r, unl_n, unl_j, unl_rf, orf_r, orf_n, orf_rf, rf_null, mA_pm, mL_pm, mP_pm, List.length_cons, List.length_nil, List.cons_append, List.nil_append, Nat.reduceAdd, Nat.reduceLeDiff, Nat.reduceLT, Nat.reduceEqDiff, Nat.zero_add, Nat.add_zero, Nat.le_refl, Nat.zero_le, true_and, and_true, true_or, or_true, false_or, or_false, reduceIte, mA_wI, mI_wI, ha, ht, hk, false_and, and_false]
  refine ⟨fun q => k35 _ (by rw [if_pos q]) _, fun q => ⟨fun q2 => k35 _ (by rw [if_neg q, if_pos q2]) _, fun q2 => k35 _ (by rw [if_neg q, if_neg q2]) _⟩⟩
theorem sp_isAsk6 (h : HP) (k a b : Int32) (p : Nat) (hp : p ≤ 60) (H : ∀ r : Int32, (r = 1 ∧ askOK k a b p) ∨ (r = 0 ∧ ¬ askOK k a b p) → Q [.int r] h) : K_X6_isAsk l D (d + 2) [.int k, .int (nI p), .int a, .int b] h Q := by
  refine m_X6_isAsk (lsA := [.int k, .int (nI p), .int a, .int b]) rfl (Nat.le_of_ble_eq_true rfl) ?_
  intro X h0 h36 h42 h67 h68 h69 h77 h78 h79
  have e4 : ∀ i, i < 5 → (0 : Int32) ≤ nI i ∧ nI i ≤ 4 := fun i hi => ⟨nI_pos' (by omega), by rw [show (4 : Int32) = nI 4 from rfl, nI_le_iff]; omega⟩
  have k36 : (0 ≤ k ∧ k ≤ 4) → ¬ k = 3 → ¬ k = 1 → X 36 [.int k, .int (nI p), .int a, .int b] [] h 0 0 := by
    intro q1 q2 q3
    apply h36
    simp only [B_X6_isAsk_36, o_il, o_zret, nth_2, nth_1, opS_2, cats_nil, cats_cons, rf_s, rf_n, isR_r, isR_n, isR_rf, cat_i, cat_l, cat_r, cat_n, cat_rf, unl_i, unl_l, unl_r, unl_n, unl_j, unl_rf, orf_r, orf_n, orf_rf, rf_null, mA_pm, mL_pm, mP_pm, List.length_cons, List.length_nil, List.cons_append, List.nil_append, Nat.reduceAdd, Nat.reduceLeDiff, Nat.reduceLT, Nat.reduceEqDiff, Nat.zero_add, Nat.add_zero, Nat.le_refl, Nat.zero_le, true_and, and_true, true_or, or_true, false_or, or_false, reduceIte]
    refine sp_within6 a p (by omega) _ (fun r hr => ?_)
    simp only [o_il, o_zret, nth_2, nth_1, opS_2, cats_nil, cats_cons, rf_s, rf_n, isR_r, isR_n, isR_rf, cat_i, cat_l, cat_r, cat_n, cat_rf, unl_i, unl_l, unl_r, unl_n, unl_j, unl_rf, orf_r, orf_n, orf_rf, rf_null, mA_pm, mL_pm, mP_pm, List.length_cons, List.length_nil, List.cons_append, List.nil_append, Nat.reduceAdd, Nat.reduceLeDiff, Nat.reduceLT, Nat.reduceEqDiff, Nat.zero_add, Nat.add_zero, Nat.le_refl, Nat.zero_le, true_and, and_true, true_or, or_true, false_or, or_false, reduceIte]
    refine ⟨by rcases hr with ⟨rfl, -⟩ | ⟨rfl, -⟩ <;> simp, H r ?_⟩
    rcases hr with ⟨h1, h2⟩ | ⟨h1, h2⟩
    · exact Or.inl ⟨h1, q1, by rw [if_neg q2]; exact ⟨h2, fun z => absurd z q3⟩⟩
    · refine Or.inr ⟨h1, fun z => ?_⟩
      have z2 := z.2
      rw [if_neg q2] at z2
      obtain ⟨i, i1, i2⟩ := z2.1
      exact h2 i i1 i2
  apply h0
  simp only [B_X6_isAsk_0, o_il, o_tsw, nth_0, cats_nil, cats_cons, rf_s, rf_n, isR_r, isR_n, isR_rf, cat_i, cat_l, cat_r, cat_n, cat_rf, unl_i, unl_l, unl_r, unl_n, unl_j, unl_rf, orf_r, orf_n, orf_rf, rf_null, mA_pm, mL_pm, mP_pm, List.length_cons, List.length_nil, List.cons_append, List.nil_append, Nat.reduceAdd, Nat.reduceLeDiff, Nat.reduceLT, Nat.reduceEqDiff, Nat.zero_add, Nat.add_zero, Nat.le_refl, Nat.zero_le, true_and, and_true, true_or, or_true, false_or, or_false, reduceIte]
  rcases tgo_c 5 (by omega) 4 rfl 79 [36, 42, 36, 69, 36] k with ⟨i, hi, rfl, e⟩ | ⟨hn, e⟩
  · rw [e]
    have hi5 : i = 0 ∨ i = 1 ∨ i = 2 ∨ i = 3 ∨ i = 4 := by omega
    rcases hi5 with rfl | rfl | rfl | rfl | rfl
    · exact k36 (e4 0 (by omega)) (by decide) (by decide)
    · show X 42 _ _ _ _ _
      have eA : askOK (nI 1) a b p = ((0 ≤ nI 1 ∧ nI 1 ≤ 4) ∧ (∃ i, i < p ∧ a = nI i) ∧ (nI 1 = 1 → a ≤ b ∧ ∃ i, i < p ∧ b = nI i)) := by
        unfold askOK
        rw [if_neg (by decide)]
      have k67 : ¬ askOK (nI 1) a b p → X 67 [.int (nI 1), .int (nI p), .int a, .int b] [] h 0 0 := by
        intro q
        apply h67
        simp only [B_X6_isAsk_67, o_ic, cats_nil, cats_cons, rf_s, rf_n, isR_r, isR_n, isR_rf, cat_i, cat_l, cat_r, cat_n, cat_rf, unl_i, unl_l, unl_r, unl_n, unl_j, unl_rf, orf_r, orf_n, orf_rf, rf_null, mA_pm, mL_pm, mP_pm, List.length_cons, List.length_nil, List.cons_append, List.nil_append, Nat.reduceAdd, Nat.reduceLeDiff, Nat.reduceLT, Nat.reduceEqDiff, Nat.zero_add, Nat.add_zero, Nat.le_refl, Nat.zero_le, true_and, and_true, true_or, or_true, false_or, or_false, reduceIte]
        apply h68
        simp only [B_X6_isAsk_68, o_zret, cats_nil, cats_cons, rf_s, rf_n, isR_r, isR_n, isR_rf, cat_i, cat_l, cat_r, cat_n, cat_rf, unl_i, unl_l, unl_r, unl_n, unl_j, unl_rf, orf_r, orf_n, orf_rf, rf_null, mA_pm, mL_pm, mP_pm, List.length_cons, List.length_nil, List.cons_append, List.nil_append, Nat.reduceAdd, Nat.reduceLeDiff, Nat.reduceLT, Nat.reduceEqDiff, Nat.zero_add, Nat.add_zero, Nat.le_refl, Nat.zero_le, true_and, and_true, true_or, or_true, false_or, or_false, reduceIte]
        exact H 0 (Or.inr ⟨rfl, q⟩)
      apply h42
      simp only [B_X6_isAsk_42, o_il, o_ic2, o_if, o_ic, nth_2, nth_3, nth_1, opS_2, cats_nil, cats_cons, rf_s, rf_n, isR_r, isR_n, isR_rf, cat_i, cat_l, cat_r, cat_n, cat_rf, unl_i, unl_l, unl_r, unl_n, unl_j, unl_rf, orf_r, orf_n, orf_rf, rf_null, mA_pm, mL_pm, mP_pm, List.length_cons, List.length_nil, List.cons_append, List.nil_append, Nat.reduceAdd, Nat.reduceLeDiff, Nat.reduceLT, Nat.reduceEqDiff, Nat.zero_add, Nat.add_zero, Nat.le_refl, Nat.zero_le, true_and, and_true, true_or, or_true, false_or, or_false, reduceIte]
      refine ⟨fun q => k67 (fun z => ?_), fun q => ?_⟩
      · rw [eA] at z
        exact absurd q (Int32.not_lt.mpr (z.2.2 rfl).1)
      · refine sp_within6 a p (by omega) _ (fun r hr => ?_)
        simp only [o_il, o_ic2, o_if, o_ic, nth_2, nth_3, nth_1, opS_2, cats_nil, cats_cons, rf_s, rf_n, isR_r, isR_n, isR_rf, cat_i, cat_l, cat_r, cat_n, cat_rf, unl_i, unl_l, unl_r, unl_n, unl_j, unl_rf, orf_r, orf_n, orf_rf, rf_null, mA_pm, mL_pm, mP_pm, List.length_cons, List.length_nil, List.cons_append, List.nil_append, Nat.reduceAdd, Nat.reduceLeDiff, Nat.reduceLT, Nat.reduceEqDiff, Nat.zero_add, Nat.add_zero, Nat.le_refl, Nat.zero_le, true_and, and_true, true_or, or_true, false_or, or_false, reduceIte]
        rcases hr with ⟨rfl, hr⟩ | ⟨rfl, hr⟩
        · refine ⟨fun z => absurd z (by decide), fun _ => ?_⟩
          refine sp_within6 b p (by omega) _ (fun r2 hr2 => ?_)
          simp only [o_il, o_ic2, o_if, o_ic, nth_2, nth_3, nth_1, opS_2, cats_nil, cats_cons, rf_s, rf_n, isR_r, isR_n, isR_rf, cat_i, cat_l, cat_r, cat_n, cat_rf, unl_i, unl_l, unl_r, unl_n, unl_j, unl_rf, orf_r, orf_n, orf_rf, rf_null, mA_pm, mL_pm, mP_pm, List.length_cons, List.length_nil, List.cons_append, List.nil_append, Nat.reduceAdd, Nat.reduceLeDiff, Nat.reduceLT, Nat.reduceEqDiff, Nat.zero_add, Nat.add_zero, Nat.le_refl, Nat.zero_le, true_and, and_true, true_or, or_true, false_or, or_false, reduceIte]
          rcases hr2 with ⟨rfl, hr2⟩ | ⟨rfl, hr2⟩
          · refine ⟨fun z => absurd z (by decide), fun _ => ?_⟩
            apply h68
            simp only [B_X6_isAsk_68, o_zret, cats_nil, cats_cons, rf_s, rf_n, isR_r, isR_n, isR_rf, cat_i, cat_l, cat_r, cat_n, cat_rf, unl_i, unl_l, unl_r, unl_n, unl_j, unl_rf, orf_r, orf_n, orf_rf, rf_null, mA_pm, mL_pm, mP_pm, List.length_cons, List.length_nil, List.cons_append, List.nil_append, Nat.reduceAdd, Nat.reduceLeDiff, Nat.reduceLT, Nat.reduceEqDiff, Nat.zero_add, Nat.add_zero, Nat.le_refl, Nat.zero_le, true_and, and_true, true_or, or_true, false_or, or_false, reduceIte]
            exact H 1 (Or.inl ⟨rfl, by rw [eA]; exact ⟨e4 1 (by omega), hr, fun _ => ⟨Int32.not_lt.mp q, hr2⟩⟩⟩)
          · refine ⟨fun _ => k67 (fun z => ?_), fun z => by first | exact absurd rfl z | exact absurd trivial z⟩
            rw [eA] at z
            obtain ⟨i, i1, i2⟩ := (z.2.2 rfl).2
            exact hr2 i i1 i2
        · refine ⟨fun _ => k67 (fun z => ?_), fun z => by first | exact absurd rfl z | exact absurd trivial z⟩
          rw [eA] at z
          obtain ⟨i, i1, i2⟩ := z.2.1
          exact hr i i1 i2
    · exact k36 (e4 2 (by omega)) (by decide) (by decide)
    · show X 69 _ _ _ _ _
      have eA : askOK (nI 3) a b p = ((0 ≤ nI 3 ∧ nI 3 ≤ 4) ∧ ¬ a < 0) := by
        unfold askOK
        rw [if_pos (by decide)]
      apply h69
      simp only [B_X6_isAsk_69, o_il, o_if, o_ic, nth_2, cats_nil, cats_cons, rf_s, rf_n, isR_r, isR_n, isR_rf, cat_i, cat_l, cat_r, cat_n, cat_rf, unl_i, unl_l, unl_r, unl_n, unl_j, unl_rf, orf_r, orf_n, orf_rf, rf_null, mA_pm, mL_pm, mP_pm, List.length_cons, List.length_nil, List.cons_append, List.nil_append, Nat.reduceAdd, Nat.reduceLeDiff, Nat.reduceLT, Nat.reduceEqDiff, Nat.zero_add, Nat.add_zero, Nat.le_refl, Nat.zero_le, true_and, and_true, true_or, or_true, false_or, or_false, reduceIte]
      refine ⟨fun q => ?_, fun q => ?_⟩
      · apply h77
        simp only [B_X6_isAsk_77, o_ic, cats_nil, cats_cons, rf_s, rf_n, isR_r, isR_n, isR_rf, cat_i, cat_l, cat_r, cat_n, cat_rf, unl_i, unl_l, unl_r, unl_n, unl_j, unl_rf, orf_r, orf_n, orf_rf, rf_null, mA_pm, mL_pm, mP_pm, List.length_cons, List.length_nil, List.cons_append, List.nil_append, Nat.reduceAdd, Nat.reduceLeDiff, Nat.reduceLT, Nat.reduceEqDiff, Nat.zero_add, Nat.add_zero, Nat.le_refl, Nat.zero_le, true_and, and_true, true_or, or_true, false_or, or_false, reduceIte]
        apply h78
        simp only [B_X6_isAsk_78, o_zret, cats_nil, cats_cons, rf_s, rf_n, isR_r, isR_n, isR_rf, cat_i, cat_l, cat_r, cat_n, cat_rf, unl_i, unl_l, unl_r, unl_n, unl_j, unl_rf, orf_r, orf_n, orf_rf, rf_null, mA_pm, mL_pm, mP_pm, List.length_cons, List.length_nil, List.cons_append, List.nil_append, Nat.reduceAdd, Nat.reduceLeDiff, Nat.reduceLT, Nat.reduceEqDiff, Nat.zero_add, Nat.add_zero, Nat.le_refl, Nat.zero_le, true_and, and_true, true_or, or_true, false_or, or_false, reduceIte]
        exact H 0 (Or.inr ⟨rfl, by rw [eA]; exact fun z => z.2 q⟩)
      · apply h78
        simp only [B_X6_isAsk_78, o_zret, cats_nil, cats_cons, rf_s, rf_n, isR_r, isR_n, isR_rf, cat_i, cat_l, cat_r, cat_n, cat_rf, unl_i, unl_l, unl_r, unl_n, unl_j, unl_rf, orf_r, orf_n, orf_rf, rf_null, mA_pm, mL_pm, mP_pm, List.length_cons, List.length_nil, List.cons_append, List.nil_append, Nat.reduceAdd, Nat.reduceLeDiff, Nat.reduceLT, Nat.reduceEqDiff, Nat.zero_add, Nat.add_zero, Nat.le_refl, Nat.zero_le, true_and, and_true, true_or, or_true, false_or, or_false, reduceIte]
        exact H 1 (Or.inl ⟨rfl, by rw [eA]; exact ⟨e4 3 (by omega), q⟩⟩)
    · exact k36 (e4 4 (by omega)) (by decide) (by decide)
  · rw [e]
    apply h79
    simp only [B_X6_isAsk_79, o_ic, o_zret, cats_nil, cats_cons, rf_s, rf_n, isR_r, isR_n, isR_rf, cat_i, cat_l, cat_r, cat_n, cat_rf, unl_i, unl_l, unl_r, unl_n, unl_j, unl_rf, orf_r, orf_n, orf_rf, rf_null, mA_pm, mL_pm, mP_pm, List.length_cons, List.length_nil, List.cons_append, List.nil_append, Nat.reduceAdd, Nat.reduceLeDiff, Nat.reduceLT, Nat.reduceEqDiff, Nat.zero_add, Nat.add_zero, Nat.le_refl, Nat.zero_le, true_and, and_true, true_or, or_true, false_or, or_false, reduceIte]
    refine H 0 (Or.inr ⟨rfl, fun z => ?_⟩)
    obtain ⟨i, hi, hx⟩ : ∃ i, i < 5 ∧ k = nI i := in_nI (by omega) ⟨z.1.1, by rw [show (nI 5 - 1 : Int32) = 4 by decide]; exact z.1.2⟩
    exact hn i hi hx
end ZC14
