/-! The class: ways, costs -/
theorem absN {a b : Nat} (ha : a < 1000000) (hb : b < 1000000) : (if 0 ≤ nI a - nI b then nI a - nI b else 0 - (nI a - nI b)) = nI (if b ≤ a then a - b else b - a) := by
  by_cases h : b ≤ a
  · rw [pk_sub h, if_pos (nI_pos' (by omega)), if_pos h]
  · have e : nI a - nI b = 0 - nI (b - a) := by
      rw [← pk_sub (show a ≤ b by omega)]
      grind
    rw [if_neg h, e, if_neg]
    · grind
    · intro z
      have h1 := Int32.le_iff_toInt_le.mp z
      rw [Int32.toInt_sub, nI_toI (by omega)] at h1
      have h2 : ((0 : Int32).toInt - ((b - a : Nat) : Int)).bmod (2 ^ 32) = -((b - a : Nat) : Int) := by
        rw [Int.bmod_eq_of_le]
        · simp
        · simp; omega
        · simp; omega
      rw [h2] at h1
      simp at h1
      omega
section ZC3
variable {l : Launch} {D : DD} {d : Nat} {Q : List Value → HP → Prop}
theorem w1_N {f h v : Nat} (hf : f < 60) (hh : h < 60) : way1 (nI f) (nI h) (nI v - 1) = nI (w1N f h v) - 1 := by
  unfold way1 w1N
  simp only [nI_le_iff (show f < 2147483648 by omega) (show h < 2147483648 by omega), nI_eq_iff (show f < 2147483648 by omega) (show h < 2147483648 by omega)]
  repeat' split
  all_goals rfl
theorem sp_wayTo (h : HP) (a w f : Int32) (H : Q [.int (way1 f a w)] h) : K_X6_wayTo l D (d + 1) [.int a, .int w, .int f] h Q := by
  refine m_X6_wayTo (lsA := [.int a, .int w, .int f]) rfl (Nat.le_of_ble_eq_true rfl) ?_
  intro X h0 h9 h18 h19
  unfold way1 at H
  apply h0
  simp only [B_X6_wayTo_0, o_il, o_ic2, o_ic, nth_2, nth_0, cats_nil, cats_cons, rf_s, rf_n, isR_r, isR_n, isR_rf, cat_i, cat_l, cat_r, cat_n, cat_rf, unl_i, unl_l, unl_r, unl_n, unl_j, unl_rf, orf_r, orf_n, orf_rf, rf_null, mA_pm, mL_pm, mP_pm, List.length_cons, List.length_nil, List.cons_append, List.nil_append, Nat.reduceAdd, Nat.reduceLeDiff, Nat.reduceLT, Nat.reduceEqDiff, Nat.zero_add, Nat.add_zero, Nat.le_refl, Nat.zero_le, true_and, and_true, true_or, or_true, false_or, or_false, reduceIte]
  refine ⟨fun q => ?_, fun q => ?_⟩
  · apply h9
    simp only [B_X6_wayTo_9, o_il, o_ic2, o_ic, nth_2, nth_0, cats_nil, cats_cons, rf_s, rf_n, isR_r, isR_n, isR_rf, cat_i, cat_l, cat_r, cat_n, cat_rf, unl_i, unl_l, unl_r, unl_n, unl_j, unl_rf, orf_r, orf_n, orf_rf, rf_null, mA_pm, mL_pm, mP_pm, List.length_cons, List.length_nil, List.cons_append, List.nil_append, Nat.reduceAdd, Nat.reduceLeDiff, Nat.reduceLT, Nat.reduceEqDiff, Nat.zero_add, Nat.add_zero, Nat.le_refl, Nat.zero_le, true_and, and_true, true_or, or_true, false_or, or_false, reduceIte]
    refine ⟨fun q2 => ?_, fun q2 => ?_⟩
    · rw [if_pos (Int32.le_antisymm q q2)] at H
      apply h18
      simp only [B_X6_wayTo_18, o_il, nth_1, cats_nil, cats_cons, rf_s, rf_n, isR_r, isR_n, isR_rf, cat_i, cat_l, cat_r, cat_n, cat_rf, unl_i, unl_l, unl_r, unl_n, unl_j, unl_rf, orf_r, orf_n, orf_rf, rf_null, mA_pm, mL_pm, mP_pm, List.length_cons, List.length_nil, List.cons_append, List.nil_append, Nat.reduceAdd, Nat.reduceLeDiff, Nat.reduceLT, Nat.reduceEqDiff, Nat.zero_add, Nat.add_zero, Nat.le_refl, Nat.zero_le, true_and, and_true, true_or, or_true, false_or, or_false, reduceIte]
      apply h19
      simp only [B_X6_wayTo_19, o_iret, cats_nil, cats_cons, rf_s, rf_n, isR_r, isR_n, isR_rf, cat_i, cat_l, cat_r, cat_n, cat_rf, unl_i, unl_l, unl_r, unl_n, unl_j, unl_rf, orf_r, orf_n, orf_rf, rf_null, mA_pm, mL_pm, mP_pm, List.length_cons, List.length_nil, List.cons_append, List.nil_append, Nat.reduceAdd, Nat.reduceLeDiff, Nat.reduceLT, Nat.reduceEqDiff, Nat.zero_add, Nat.add_zero, Nat.le_refl, Nat.zero_le, true_and, and_true, true_or, or_true, false_or, or_false, reduceIte]
      exact H
    · rw [if_neg (fun z => q2 (by rw [z]; exact Int32.le_refl _)), if_pos q] at H
      apply h19
      simp only [B_X6_wayTo_19, o_iret, cats_nil, cats_cons, rf_s, rf_n, isR_r, isR_n, isR_rf, cat_i, cat_l, cat_r, cat_n, cat_rf, unl_i, unl_l, unl_r, unl_n, unl_j, unl_rf, orf_r, orf_n, orf_rf, rf_null, mA_pm, mL_pm, mP_pm, List.length_cons, List.length_nil, List.cons_append, List.nil_append, Nat.reduceAdd, Nat.reduceLeDiff, Nat.reduceLT, Nat.reduceEqDiff, Nat.zero_add, Nat.add_zero, Nat.le_refl, Nat.zero_le, true_and, and_true, true_or, or_true, false_or, or_false, reduceIte]
      exact H
  · rw [if_neg (fun z => q (by rw [z]; exact Int32.le_refl _)), if_neg q] at H
    apply h19
    simp only [B_X6_wayTo_19, o_iret, cats_nil, cats_cons, rf_s, rf_n, isR_r, isR_n, isR_rf, cat_i, cat_l, cat_r, cat_n, cat_rf, unl_i, unl_l, unl_r, unl_n, unl_j, unl_rf, orf_r, orf_n, orf_rf, rf_null, mA_pm, mL_pm, mP_pm, List.length_cons, List.length_nil, List.cons_append, List.nil_append, Nat.reduceAdd, Nat.reduceLeDiff, Nat.reduceLT, Nat.reduceEqDiff, Nat.zero_add, Nat.add_zero, Nat.le_refl, Nat.zero_le, true_and, and_true, true_or, or_true, false_or, or_false, reduceIte]
    exact H
theorem sp_wayBehind (h : HP) (a w f g : Int32) (H : Q [.int (wayF f g a w)] h) : K_X6_wayBehind l D (d + 2) [.int a, .int w, .int f, .int g] h Q := by
  refine m_X6_wayBehind (lsA := [.int a, .int w, .int f, .int g]) rfl (Nat.le_of_ble_eq_true rfl) ?_
  intro X h0 h9 h15
  unfold wayF at H
  apply h0
  simp only [B_X6_wayBehind_0, o_il, o_ic2, o_ic, nth_3, nth_2, cats_nil, cats_cons, rf_s, rf_n, isR_r, isR_n, isR_rf, cat_i, cat_l, cat_r, cat_n, cat_rf, unl_i, unl_l, unl_r, unl_n, unl_j, unl_rf, orf_r, orf_n, orf_rf, rf_null, mA_pm, mL_pm, mP_pm, List.length_cons, List.length_nil, List.cons_append, List.nil_append, Nat.reduceAdd, Nat.reduceLeDiff, Nat.reduceLT, Nat.reduceEqDiff, Nat.zero_add, Nat.add_zero, Nat.le_refl, Nat.zero_le, true_and, and_true, true_or, or_true, false_or, or_false, reduceIte]
  refine ⟨fun q => ?_, fun q => ?_⟩
  · rw [if_pos q] at H
    apply h9
    simp only [B_X6_wayBehind_9, o_il, nth_0, nth_1, nth_2, opS_3, cats_nil, cats_cons, rf_s, rf_n, isR_r, isR_n, isR_rf, cat_i, cat_l, cat_r, cat_n, cat_rf, unl_i, unl_l, unl_r, unl_n, unl_j, unl_rf, orf_r, orf_n, orf_rf, rf_null, mA_pm, mL_pm, mP_pm, List.length_cons, List.length_nil, List.cons_append, List.nil_append, Nat.reduceAdd, Nat.reduceLeDiff, Nat.reduceLT, Nat.reduceEqDiff, Nat.zero_add, Nat.add_zero, Nat.le_refl, Nat.zero_le, true_and, and_true, true_or, or_true, false_or, or_false, reduceIte]
    refine sp_wayTo _ _ _ _ ?_
    simp only [o_il, nth_0, nth_1, nth_2, opS_3, cats_nil, cats_cons, rf_s, rf_n, isR_r, isR_n, isR_rf, cat_i, cat_l, cat_r, cat_n, cat_rf, unl_i, unl_l, unl_r, unl_n, unl_j, unl_rf, orf_r, orf_n, orf_rf, rf_null, mA_pm, mL_pm, mP_pm, List.length_cons, List.length_nil, List.cons_append, List.nil_append, Nat.reduceAdd, Nat.reduceLeDiff, Nat.reduceLT, Nat.reduceEqDiff, Nat.zero_add, Nat.add_zero, Nat.le_refl, Nat.zero_le, true_and, and_true, true_or, or_true, false_or, or_false, reduceIte]
    apply h15
    simp only [B_X6_wayBehind_15, o_iret, cats_nil, cats_cons, rf_s, rf_n, isR_r, isR_n, isR_rf, cat_i, cat_l, cat_r, cat_n, cat_rf, unl_i, unl_l, unl_r, unl_n, unl_j, unl_rf, orf_r, orf_n, orf_rf, rf_null, mA_pm, mL_pm, mP_pm, List.length_cons, List.length_nil, List.cons_append, List.nil_append, Nat.reduceAdd, Nat.reduceLeDiff, Nat.reduceLT, Nat.reduceEqDiff, Nat.zero_add, Nat.add_zero, Nat.le_refl, Nat.zero_le, true_and, and_true, true_or, or_true, false_or, or_false, reduceIte]
    exact H
  · rw [if_neg q] at H
    apply h15
    simp only [B_X6_wayBehind_15, o_iret, cats_nil, cats_cons, rf_s, rf_n, isR_r, isR_n, isR_rf, cat_i, cat_l, cat_r, cat_n, cat_rf, unl_i, unl_l, unl_r, unl_n, unl_j, unl_rf, orf_r, orf_n, orf_rf, rf_null, mA_pm, mL_pm, mP_pm, List.length_cons, List.length_nil, List.cons_append, List.nil_append, Nat.reduceAdd, Nat.reduceLeDiff, Nat.reduceLT, Nat.reduceEqDiff, Nat.zero_add, Nat.add_zero, Nat.le_refl, Nat.zero_le, true_and, and_true, true_or, or_true, false_or, or_false, reduceIte]
    exact H
theorem tn_there {f h v : Nat} (hf : f < 60) (hh : h < 60) (hv : v < 3) : ((0 : Int32) ≤ (nI v - 1) * (nI (w1N f h v) - 1)) ↔ ¬ (¬ f = h ∧ ((f ≤ h ∧ v = 2) ∨ (¬ f ≤ h ∧ v = 0))) := by
  have hv3 : v = 0 ∨ v = 1 ∨ v = 2 := by omega
  unfold w1N
  by_cases h1 : f = h
  · rw [if_pos h1]
    rcases hv3 with rfl | rfl | rfl
    · exact ⟨fun _ z => z.1 h1, fun _ => by decide⟩
    · exact ⟨fun _ z => z.1 h1, fun _ => by decide⟩
    · exact ⟨fun _ z => z.1 h1, fun _ => by decide⟩
  · rw [if_neg h1]
    by_cases h2 : f ≤ h
    · rw [if_pos h2]
      rcases hv3 with rfl | rfl | rfl
      · exact ⟨fun _ z => by omega, fun _ => by decide⟩
      · exact ⟨fun _ z => by omega, fun _ => by decide⟩
      · exact ⟨fun z => absurd z (by decide), fun z => absurd ⟨h1, Or.inl ⟨h2, rfl⟩⟩ z⟩
    · rw [if_neg h2]
      rcases hv3 with rfl | rfl | rfl
      · exact ⟨fun z => absurd z (by decide), fun z => absurd ⟨h1, Or.inr ⟨h2, rfl⟩⟩ z⟩
      · exact ⟨fun _ z => by omega, fun _ => by decide⟩
      · exact ⟨fun _ z => by omega, fun _ => by decide⟩
theorem w1N_lt {f h v : Nat} (hv : v < 3) : w1N f h v < 3 := by unfold w1N; (repeat' split) <;> omega
theorem th_neg {x : Nat} (hx : x < 3) : ((0 : Int32) ≤ nI x - 1) ↔ ¬ x = 0 := by
  have : x = 0 ∨ x = 1 ∨ x = 2 := by omega
  rcases this with rfl | rfl | rfl <;> decide
theorem sp_costOf6 (hp : HP) {f g h v : Nat} (hfg : f ≤ g) (hg : g < 60) (hh : h < 60) (hv : v < 3) (H : Q [.int (nI (cN f g h v))] hp) : K_X6_costOf l D (d + 2) [.int (nI h), .int (nI v - 1), .int (nI f), .int (nI g)] hp Q := by
  refine m_X6_costOf (lsA := [.int (nI h), .int (nI v - 1), .int (nI f), .int (nI g), jk, jk, jk]) rfl (Nat.le_of_ble_eq_true rfl) ?_
  intro X h0 h19 h20 h36 h37
  have hf : f < 60 := by omega
  have k37 : ∀ a b : Nat, a = (if ¬ f = h ∧ ((f ≤ h ∧ v = 2) ∨ (¬ f ≤ h ∧ v = 0)) then 2 else 0) → b = (if w1N f h v = 0 ∧ ¬ g ≤ f then 2 else 0) → X 37 [.int (nI h), .int (nI v - 1), .int (nI f), .int (nI g), .int (nI (w1N f h v) - 1), .int (nI a), jk] [.int (nI b)] hp 0 0 := by
    intro a b ha hb
    apply h37
    simp only [B_X6_costOf_37, o_is, o_il, o_ii, o_m1, o_ic, o_iret, lset_6, nth_5, nth_2, nth_0, nth_6, nth_3, cats_nil, cats_cons, rf_s, rf_n, isR_r, isR_n, isR_rf, cat_i, cat_l, cat_r, cat_n, cat_rf, unl_i, unl_l, unl_r, unl_n, unl_j, unl_rf, orf_r, orf_n, orf_rf, rf_null, mA_pm, mL_pm, mP_pm, List.length_cons, List.length_nil, List.cons_append, List.nil_append, Nat.reduceAdd, Nat.reduceLeDiff, Nat.reduceLT, Nat.reduceEqDiff, Nat.zero_add, Nat.add_zero, Nat.le_refl, Nat.zero_le, true_and, and_true, true_or, or_true, false_or, or_false, reduceIte, absN (show f < 1000000 by omega) (show h < 1000000 by omega), pk_sub hfg, nI_1, nI_add]
    have e : a + (if h ≤ f then f - h else h - f) + b + (g - f + 1) = cN f g h v := by
      rw [ha, hb]
      unfold cN w1N
      (repeat' split) <;> omega
    rw [e]
    exact H
  have k36 : ∀ a : Nat, a = (if ¬ f = h ∧ ((f ≤ h ∧ v = 2) ∨ (¬ f ≤ h ∧ v = 0)) then 2 else 0) → ¬ (w1N f h v = 0 ∧ ¬ g ≤ f) → X 36 [.int (nI h), .int (nI v - 1), .int (nI f), .int (nI g), .int (nI (w1N f h v) - 1), .int (nI a), jk] [] hp 0 0 := by
    intro a ha hb
    apply h36
    simp only [B_X6_costOf_36, o_ic, cats_nil, cats_cons, rf_s, rf_n, isR_r, isR_n, isR_rf, cat_i, cat_l, cat_r, cat_n, cat_rf, unl_i, unl_l, unl_r, unl_n, unl_j, unl_rf, orf_r, orf_n, orf_rf, rf_null, mA_pm, mL_pm, mP_pm, List.length_cons, List.length_nil, List.cons_append, List.nil_append, Nat.reduceAdd, Nat.reduceLeDiff, Nat.reduceLT, Nat.reduceEqDiff, Nat.zero_add, Nat.add_zero, Nat.le_refl, Nat.zero_le, true_and, and_true, true_or, or_true, false_or, or_false, reduceIte]
    exact k37 a 0 ha (by rw [if_neg hb])
  have k20 : ∀ a : Nat, a = (if ¬ f = h ∧ ((f ≤ h ∧ v = 2) ∨ (¬ f ≤ h ∧ v = 0)) then 2 else 0) → X 20 [.int (nI h), .int (nI v - 1), .int (nI f), .int (nI g), .int (nI (w1N f h v) - 1), jk, jk] [.int (nI a)] hp 0 0 := by
    intro a ha
    apply h20
    simp only [B_X6_costOf_20, o_is, o_il, o_if, o_ic2, o_ic, lset_5, nth_4, nth_3, nth_2, cats_nil, cats_cons, rf_s, rf_n, isR_r, isR_n, isR_rf, cat_i, cat_l, cat_r, cat_n, cat_rf, unl_i, unl_l, unl_r, unl_n, unl_j, unl_rf, orf_r, orf_n, orf_rf, rf_null, mA_pm, mL_pm, mP_pm, List.length_cons, List.length_nil, List.cons_append, List.nil_append, Nat.reduceAdd, Nat.reduceLeDiff, Nat.reduceLT, Nat.reduceEqDiff, Nat.zero_add, Nat.add_zero, Nat.le_refl, Nat.zero_le, true_and, and_true, true_or, or_true, false_or, or_false, reduceIte, th_neg (w1N_lt hv), nI_le_iff (show g < 2147483648 by omega) (show f < 2147483648 by omega)]
    refine ⟨fun q => k36 a ha (fun z => q z.1), fun q => ⟨fun q2 => k36 a ha (fun z => z.2 q2), fun q2 => k37 a 2 ha ?_⟩⟩
    rw [if_pos ⟨Decidable.not_not.mp q, q2⟩]
  apply h0
  simp only [B_X6_costOf_0, o_il, o_is, o_ii, o_if, o_ic, nth_0, nth_1, nth_2, lset_4, nth_4, opS_3, cats_nil, cats_cons, rf_s, rf_n, isR_r, isR_n, isR_rf, cat_i, cat_l, cat_r, cat_n, cat_rf, unl_i, unl_l, unl_r, unl_n, unl_j, unl_rf, orf_r, orf_n, orf_rf, rf_null, mA_pm, mL_pm, mP_pm, List.length_cons, List.length_nil, List.cons_append, List.nil_append, Nat.reduceAdd, Nat.reduceLeDiff, Nat.reduceLT, Nat.reduceEqDiff, Nat.zero_add, Nat.add_zero, Nat.le_refl, Nat.zero_le, true_and, and_true, true_or, or_true, false_or, or_false, reduceIte]
  refine sp_wayTo _ _ _ _ ?_
  rw [w1_N hf hh]
  simp only [o_il, o_is, o_ii, o_if, o_ic, nth_0, nth_1, nth_2, lset_4, nth_4, opS_3, cats_nil, cats_cons, rf_s, rf_n, isR_r, isR_n, isR_rf, cat_i, cat_l, cat_r, cat_n, cat_rf, unl_i, unl_l, unl_r, unl_n, unl_j, unl_rf, orf_r, orf_n, orf_rf, rf_null, mA_pm, mL_pm, mP_pm, List.length_cons, List.length_nil, List.cons_append, List.nil_append, Nat.reduceAdd, Nat.reduceLeDiff, Nat.reduceLT, Nat.reduceEqDiff, Nat.zero_add, Nat.add_zero, Nat.le_refl, Nat.zero_le, true_and, and_true, true_or, or_true, false_or, or_false, reduceIte, tn_there hf hh hv]
  refine ⟨fun q => ?_, fun q => ?_⟩
  · apply h19
    simp only [B_X6_costOf_19, o_ic, cats_nil, cats_cons, rf_s, rf_n, isR_r, isR_n, isR_rf, cat_i, cat_l, cat_r, cat_n, cat_rf, unl_i, unl_l, unl_r, unl_n, unl_j, unl_rf, orf_r, orf_n, orf_rf, rf_null, mA_pm, mL_pm, mP_pm, List.length_cons, List.length_nil, List.cons_append, List.nil_append, Nat.reduceAdd, Nat.reduceLeDiff, Nat.reduceLT, Nat.reduceEqDiff, Nat.zero_add, Nat.add_zero, Nat.le_refl, Nat.zero_le, true_and, and_true, true_or, or_true, false_or, or_false, reduceIte]
    exact k20 0 (by rw [if_neg q])
  · exact k20 2 (by rw [if_pos (Decidable.not_not.mp q)])
end ZC3
