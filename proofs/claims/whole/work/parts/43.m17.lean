/-! The model: laid, begins -/
section ZM17
variable {l : Launch} {D : DD} {d : Nat} {c : HP} {M : MD} {Q : List Value → HP → Prop}
theorem ItL_sc {M M' : MD} (h : SC M M') {n : Nat} {sz ct : Nat → Nat} (g : ItL M n sz ct) : ItL M' n sz ct := ⟨g.1, by rw [h.s42]; exact g.2.1, fun i hi => by rw [h.r47, h.r48]; exact g.2.2 i hi⟩
theorem sp_lays_ (hs : SKM c) {n : Nat} {sz ct : Nat → Nat} (hL : ItL M n sz ct) (H : ∀ M', SC M M' → AccL n sz M' (some (LV n sz ct n 0)) → Q [] (pm c M')) : K_X7_lays_ l D (d + 10) [.ref (ob 7 0)] (pm c M) Q := by
  refine m_X7_lays_ (lsA := [.ref (ob 7 0)]) rfl (Nat.le_of_ble_eq_true rfl) ?_
  intro X h0
  have hn := hL.1
  apply h0
  simp only [B_X7_lays__0, o_al, o_lc, o_pJ, o_ic, o_vret, nth_0, opV_4, al_7, ix_7, hs.a7, wm_7, wmJ_7, cats_nil, cats_cons, rf_s, rf_n, isR_r, isR_n, isR_rf, cat_i, cat_l, cat_r, cat_n, cat_rf, unl_i, unl_l, unl_r, unl_n, unl_j, unl_rf, orf_r, orf_n, orf_rf, rf_null, mA_pm, mL_pm, mP_pm, List.length_cons, List.length_nil, List.cons_append, List.nil_append, Nat.reduceAdd, Nat.reduceLeDiff, Nat.reduceLT, Nat.reduceEqDiff, Nat.zero_add, Nat.add_zero, Nat.le_refl, Nat.zero_le, true_and, and_true, true_or, or_true, false_or, or_false, reduceIte]
  have hsc : SC M (uJ M 7 47 (-1)) := (SC.rf M).wj 47 (-1)
  have hd0 : ∀ k, dsum ct (stO sz [] 0) 0 0 k = 0 := by
    intro k
    induction k with
    | zero => rfl
    | succ k ih =>
      show dsum ct (stO sz [] 0) 0 0 k + (if (0 : Nat).testBit k = true then _ else 0) = 0
      rw [ih, Nat.zero_testBit]
      rfl
  have := sp_lays (l := l) (D := D) (d := d + (8 - n)) hs (ItL_sc hsc hL) n [] 0 0 0 none (uJ M 7 47 (-1)) (fun r h' => o_vret Q [] (r ++ []) h' 0 0) (by simp) (lft_all _) (by omega) (fun j hj => by cases hj) (by
    show 0 + dsum ct (stO sz [] 0) 0 0 n * _ = 0
    rw [hd0, Nat.zero_mul]) (by simp) (SC.rf _) (fun j _ hj => by rw [Nat.zero_testBit] at hj; cases hj) rfl (fun M' f0 f1 f2 => ?_)
  · rw [show d + (8 - n) + n + 1 = d + 9 by omega] at this
    exact this
  · have e : upS none 0 [] (some (LV n sz ct n 0)) = some (LV n sz ct n 0) := by
      show some (0 + _, [] ++ _) = _
      rw [Nat.zero_add]
      rfl
    rw [e] at f2
    show Q [] (pm c M')
    exact H M' (hsc.tr f0) f2
theorem sp_laid (hs : SKM c) {n : Nat} {sz ct : Nat → Nat} (hL : ItL M n sz ct) (H : ∀ M', SC M M' → Q [.long (lN (LV n sz ct n 0).1)] (pm c M')) : K_X7_laid l D (d + 11) [.ref (ob 7 0)] (pm c M) Q := by
  refine m_X7_laid (lsA := [.ref (ob 7 0)]) rfl (Nat.le_of_ble_eq_true rfl) ?_
  intro X h0
  have hsc : SC M (uI M 7 0 0) := (SC.rf M).w 0 rfl
  apply h0
  simp only [B_X7_laid_0, o_al, o_ic, o_pI, o_gf, o_lret, nth_0, opV_0, mV_7_47, al_7, hs.a7, rmJ_7, ix_7, wm_7, wmJ_7, cats_nil, cats_cons, rf_s, rf_n, isR_r, isR_n, isR_rf, cat_i, cat_l, cat_r, cat_n, cat_rf, unl_i, unl_l, unl_r, unl_n, unl_j, unl_rf, orf_r, orf_n, orf_rf, rf_null, mA_pm, mL_pm, mP_pm, List.length_cons, List.length_nil, List.cons_append, List.nil_append, Nat.reduceAdd, Nat.reduceLeDiff, Nat.reduceLT, Nat.reduceEqDiff, Nat.zero_add, Nat.add_zero, Nat.le_refl, Nat.zero_le, true_and, and_true, true_or, or_true, false_or, or_false, reduceIte]
  refine sp_lays_ hs (ItL_sc hsc hL) (fun M' g1 g2 => ?_)
  simp only [o_al, o_ic, o_pI, o_gf, o_lret, nth_0, opV_0, mV_7_47, al_7, hs.a7, rmJ_7, ix_7, wm_7, wmJ_7, cats_nil, cats_cons, rf_s, rf_n, isR_r, isR_n, isR_rf, cat_i, cat_l, cat_r, cat_n, cat_rf, unl_i, unl_l, unl_r, unl_n, unl_j, unl_rf, orf_r, orf_n, orf_rf, rf_null, mA_pm, mL_pm, mP_pm, List.length_cons, List.length_nil, List.cons_append, List.nil_append, Nat.reduceAdd, Nat.reduceLeDiff, Nat.reduceLT, Nat.reduceEqDiff, Nat.zero_add, Nat.add_zero, Nat.le_refl, Nat.zero_le, true_and, and_true, true_or, or_true, false_or, or_false, reduceIte]
  rw [g2.1]
  exact H M' (hsc.tr g1)
theorem sp_begins_ (hs : SKM c) {n : Nat} {sz ct : Nat → Nat} (hL : ItL M n sz ct) (x : Int32) (H : ∀ r M', SC M M' → ((∃ i, i < n ∧ x = nI i ∧ r = nI (stO sz (LV n sz ct n 0).2 0 i)) ∨ ((∀ i, i < n → ¬ x = nI i) ∧ r = -1)) → Q [.int r] (pm c M')) : K_X7_begins_ l D (d + 11) [.ref (ob 7 0), .int x] (pm c M) Q := by
  refine m_X7_begins_ (lsA := [.ref (ob 7 0), .int x]) rfl (Nat.le_of_ble_eq_true rfl) ?_
  intro X h0 h21
  have hsc : SC M (uI M 7 0 0) := (SC.rf M).w 0 rfl
  have hn := hL.1
  apply h0
  simp only [B_X7_begins__0, o_al, o_ic, o_pI, o_il, o_gf, o_ii, o_if, o_iret, nth_0, nth_1, opS_3, mV_7_42, al_7, hs.a7, rm_7, ix_7, wm_7, wmJ_7, cats_nil, cats_cons, rf_s, rf_n, isR_r, isR_n, isR_rf, cat_i, cat_l, cat_r, cat_n, cat_rf, unl_i, unl_l, unl_r, unl_n, unl_j, unl_rf, orf_r, orf_n, orf_rf, rf_null, mA_pm, mL_pm, mP_pm, List.length_cons, List.length_nil, List.cons_append, List.nil_append, Nat.reduceAdd, Nat.reduceLeDiff, Nat.reduceLT, Nat.reduceEqDiff, Nat.zero_add, Nat.add_zero, Nat.le_refl, Nat.zero_le, true_and, and_true, true_or, or_true, false_or, or_false, reduceIte, uI_1, hL.2.1, Nat.reduceEqDiff, and_false]
  refine sp_within _ _ _ _ ?_
  simp only [o_al, o_ic, o_pI, o_il, o_gf, o_ii, o_if, o_iret, nth_0, nth_1, opS_3, mV_7_42, al_7, hs.a7, rm_7, ix_7, wm_7, wmJ_7, cats_nil, cats_cons, rf_s, rf_n, isR_r, isR_n, isR_rf, cat_i, cat_l, cat_r, cat_n, cat_rf, unl_i, unl_l, unl_r, unl_n, unl_j, unl_rf, orf_r, orf_n, orf_rf, rf_null, mA_pm, mL_pm, mP_pm, List.length_cons, List.length_nil, List.cons_append, List.nil_append, Nat.reduceAdd, Nat.reduceLeDiff, Nat.reduceLT, Nat.reduceEqDiff, Nat.zero_add, Nat.add_zero, Nat.le_refl, Nat.zero_le, true_and, and_true, true_or, or_true, false_or, or_false, reduceIte]
  refine ⟨fun q => H (-1) _ hsc (Or.inr ⟨fun i hi e => bi_e0 q (by rw [e]; exact in_nI' hi (by omega)), rfl⟩), fun q => ?_⟩
  obtain ⟨i, hi, rfl⟩ := in_nI (by omega) (bi_ne0 q)
  have hi8 : i < 8 := by omega
  apply h21
  simp only [B_X7_begins__21, o_al, o_gf, o_il, o_iald, o_iret, nth_0, nth_1, opV_0, mV_7_46, al_7, hs.a7, hs.p46, kd_50, ix_50, hs.l50, rm_50, wm_50, ix_7, cats_nil, cats_cons, rf_s, rf_n, isR_r, isR_n, isR_rf, cat_i, cat_l, cat_r, cat_n, cat_rf, unl_i, unl_l, unl_r, unl_n, unl_j, unl_rf, orf_r, orf_n, orf_rf, rf_null, mA_pm, mL_pm, mP_pm, List.length_cons, List.length_nil, List.cons_append, List.nil_append, Nat.reduceAdd, Nat.reduceLeDiff, Nat.reduceLT, Nat.reduceEqDiff, Nat.zero_add, Nat.add_zero, Nat.le_refl, Nat.zero_le, true_and, and_true, true_or, or_true, false_or, or_false, reduceIte]
  refine sp_lays_ hs (ItL_sc hsc hL) (fun M' g1 g2 => ?_)
  simp only [o_al, o_gf, o_il, o_iald, o_iret, nth_0, nth_1, opV_0, mV_7_46, al_7, hs.a7, hs.p46, kd_50, ix_50, hs.l50, rm_50, wm_50, ix_7, cats_nil, cats_cons, rf_s, rf_n, isR_r, isR_n, isR_rf, cat_i, cat_l, cat_r, cat_n, cat_rf, unl_i, unl_l, unl_r, unl_n, unl_j, unl_rf, orf_r, orf_n, orf_rf, rf_null, mA_pm, mL_pm, mP_pm, List.length_cons, List.length_nil, List.cons_append, List.nil_append, Nat.reduceAdd, Nat.reduceLeDiff, Nat.reduceLT, Nat.reduceEqDiff, Nat.zero_add, Nat.add_zero, Nat.le_refl, Nat.zero_le, true_and, and_true, true_or, or_true, false_or, or_false, reduceIte, vin hi8, ncl hi8, g2.2.2 i hi]
  exact H _ M' (hsc.tr g1) (Or.inl ⟨i, hi, rfl, rfl⟩)
end ZM17
