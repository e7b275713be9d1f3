/-! The model's small methods -/
def bi (p : Prop) [Decidable p] : Int32 := if p then 1 else 0
theorem bi_t {p : Prop} [Decidable p] (h : p) : bi p = 1 := if_pos h
theorem bi_f {p : Prop} [Decidable p] (h : ¬ p) : bi p = 0 := if_neg h
theorem bi_01 (p : Prop) [Decidable p] : bi p = 0 ∨ bi p = 1 := by unfold bi; split <;> simp
section ZML
variable {l : Launch} {D : DD} {d : Nat} {c : HP} {M : MD} {Q : List Value → HP → Prop}
theorem sp_within (v lo hi : Int32) (h : HP) (H : Q [.int (bi (lo ≤ v ∧ v ≤ hi))] h) : K_X7_within l D (d + 1) [.int v, .int lo, .int hi] h Q := by
  refine m_X7_within (lsA := [.int v, .int lo, .int hi]) rfl (Nat.le_of_ble_eq_true rfl) ?_
  intro X h0 h14 h15
  have k15 : ∀ (x : Int32) ls, x = bi (lo ≤ v ∧ v ≤ hi) → X 15 ls [.int x] h 0 0 := by
    intro x ls hx
    apply h15
    simp only [B_X7_within_15, o_zret, rf_s, rf_n, isR_r, isR_n, isR_rf, cat_i, cat_l, cat_r, cat_n, cat_rf, unl_i, unl_l, unl_r, unl_n, unl_j, unl_rf, orf_r, orf_n, orf_rf, rf_null, mA_pm, mL_pm, mP_pm, List.length_cons, List.length_nil, List.cons_append, List.nil_append, Nat.reduceAdd, Nat.reduceLeDiff, Nat.zero_add, Nat.add_zero, Nat.le_refl, Nat.zero_le, true_and, and_true, true_or, or_true, false_or, or_false, reduceIte]
    rw [hx]
    exact ⟨bi_01 _, H⟩
  have k14 : ∀ ls, ¬ (lo ≤ v ∧ v ≤ hi) → X 14 ls [] h 0 0 := by
    intro ls hn
    apply h14
    simp only [B_X7_within_14, o_ic, rf_s, rf_n, isR_r, isR_n, isR_rf, cat_i, cat_l, cat_r, cat_n, cat_rf, unl_i, unl_l, unl_r, unl_n, unl_j, unl_rf, orf_r, orf_n, orf_rf, rf_null, mA_pm, mL_pm, mP_pm, List.length_cons, List.length_nil, List.cons_append, List.nil_append, Nat.reduceAdd, Nat.reduceLeDiff, Nat.zero_add, Nat.add_zero, Nat.le_refl, Nat.zero_le, true_and, and_true, true_or, or_true, false_or, or_false, reduceIte]
    exact k15 _ _ (bi_f hn).symm
  apply h0
  simp only [B_X7_within_0, o_il, o_ic2, o_ic, nth_0, nth_1, nth_2, rf_s, rf_n, isR_r, isR_n, isR_rf, cat_i, cat_l, cat_r, cat_n, cat_rf, unl_i, unl_l, unl_r, unl_n, unl_j, unl_rf, orf_r, orf_n, orf_rf, rf_null, mA_pm, mL_pm, mP_pm, List.length_cons, List.length_nil, List.cons_append, List.nil_append, Nat.reduceAdd, Nat.reduceLeDiff, Nat.zero_add, Nat.add_zero, Nat.le_refl, Nat.zero_le, true_and, and_true, true_or, or_true, false_or, or_false, reduceIte]
  refine ⟨fun q => k14 _ (fun z => absurd z.1 (Int32.not_le.mpr q)), fun q => ⟨fun q2 => k14 _ (fun z => absurd z.2 (Int32.not_le.mpr q2)), fun q2 => k15 _ _ (bi_t ⟨Int32.not_lt.mp q, Int32.not_lt.mp q2⟩).symm⟩⟩
theorem sp_isTape (hs : SKM c) (t : Int32) (H : Q [.int (bi (0 ≤ t ∧ t ≤ M.1 7 1 - 1))] (pm c M)) : K_X7_isTape l D (d + 2) [.ref (ob 7 0), .int t] (pm c M) Q := by
  refine m_X7_isTape (lsA := [.ref (ob 7 0), .int t]) rfl (Nat.le_of_ble_eq_true rfl) ?_
  intro X h0
  apply h0
  simp only [B_X7_isTape_0, o_il, o_ic, o_al, o_gf, o_ii, o_zret, nth_1, nth_0, opS_3, mV_7_1, al_7, hs.a7, rm_7, ix_7, rf_s, rf_n, isR_r, isR_n, isR_rf, cat_i, cat_l, cat_r, cat_n, cat_rf, unl_i, unl_l, unl_r, unl_n, unl_j, unl_rf, orf_r, orf_n, orf_rf, rf_null, mA_pm, mL_pm, mP_pm, List.length_cons, List.length_nil, List.cons_append, List.nil_append, Nat.reduceAdd, Nat.reduceLeDiff, Nat.zero_add, Nat.add_zero, Nat.le_refl, Nat.zero_le, true_and, and_true, true_or, or_true, false_or, or_false, reduceIte]
  refine sp_within _ _ _ _ ?_
  simp only [List.cons_append, List.nil_append, o_zret]
  exact ⟨bi_01 _, H⟩
end ZML
