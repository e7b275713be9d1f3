/-! The class: order, told, mends, settings -/
section ZC35
variable {c : HP} {M : MD} {nT nR nA : Nat}
theorem PLC.hp (h : PLC c M nT nA) (hT2 : nT ≤ 12) : ∀ t, t < nT → mI c 6 13 0 = nI t → PLN c M t nA := fun s hs e => by
  rcases h with b2 | ⟨s', e1, e2, e3⟩
  · rw [e] at b2
    exact absurd b2 (nI_m1 (by omega))
  · rw [e, nI_eq_iff] at e2
    subst e2
    exact e3
/-- a plan is made, nothing else -/
theorem CPT.plan (h : CPT c M nT nR nA) {c' : HP} (hF : FRI wPl c c') (hP : PLC c' M nT nA) : CPT c' M nT nR nA := by
  obtain ⟨⟨a1, a2, a3, a4, a5, a6, a7, a8⟩, b1, b2, b3, b4⟩ := h
  refine ⟨⟨a1.fr hF.q (fun i j z => by have := z.2; omega) (fun j => hF.J 1 9 j) (EK.rf _ _) (fun _ => rfl), a2.fr hF.q (fun i j _ z => by have := z.2; omega) (EK.rf _ _), a3.fr hF.q (fun j => ⟨fun z => by have := z.2; omega, fun z => by have := z.2; omega, fun z => by have := z.2; omega, fun z => by have := z.2; omega⟩) (EK.rf _ _), a4.fr hF.q (fun i j z => by have := z.2; omega) (fun i j z => by have := z.2; omega) (EK.rf _ _), a5.fr hF.q (fun i j _ z => by have := z.2; omega) (EK.rf _ _), ?_, ?_, ?_⟩, b1.fi hF (fun _ => rfl) (fun _ => rfl) rfl, hP, b3.fr hF.q ⟨fun z => by have := z.2; omega, fun z => by have := z.2; omega⟩ (EK.rf _ _), b4.fr hF.q (fun j z => by have := z.2; omega) rfl⟩
  · rw [hF.I (fun z => by have := z.2; omega)]
    exact a6
  · rw [hF.I (fun z => by have := z.2; omega)]
    exact a7
  · rw [hF.I (fun z => by have := z.2; omega)]
    exact a8
theorem PLN.lw {t : Nat} (h : PLN c M t nA) {c' : HP} (hF : FRI wL c c') (h13 : mI c' 2 13 0 = nI (oV M t nA true).1) : PLN c' M t nA := by
  obtain ⟨p1, ⟨m, p2⟩, p3, p4, p5, p6, p7⟩ := h
  refine ⟨p1.fr hF (fun k i j z => by have := z.2; omega), ⟨m, p2.fr hF (fun i => ⟨fun z => by have := z.2; omega, fun z => by have := z.2; omega, fun z => by have := z.2; omega, fun z => by have := z.2; omega⟩)⟩, p3.fr hF (fun i => ⟨fun z => by have := z.2; omega, fun z => by have := z.2; omega⟩), fun i hi => ?_, ?_, ?_, Or.inr h13⟩
  · rw [hF.I (fun z => by have := z.2; omega)]
    exact p4 i hi
  · rw [hF.I (fun z => by have := z.2; omega)]
    exact p5
  · rw [hF.I (fun z => by have := z.2; omega)]
    exact p6
end ZC35
section ZC35b
variable {l : Launch} {D : DD} {d : Nat} {c : HP} {M N : MD} {Q : List Value → HP → Prop}
theorem sp_order6 (hc : SKF c) {nT nR nA : Nat} (hd : SKD c nT nR nA) (hT2 : nT ≤ 12) (hA2 : nA ≤ 150) (hC : CPT c M nT nR nA) (hG : GA M nT nA) (hH : GH M nT) (x y : Int32) (H : ∀ r c', FRI wPl c c' → PLC c' M nT nA → ((∃ t i, t < nT ∧ x = nI t ∧ i < (gl M t nA).length ∧ y = nI i ∧ r = nI (oS M t nA i)) ∨ ((∀ t i, t < nT → x = nI t → i < (gl M t nA).length → ¬ y = nI i) ∧ r = -1)) → Q [.int r] (pm c' N)) : K_X6_order l D (d + 6) [.ref (ob 6 0), .int x, .int y] (pm c N) Q := by
  refine m_X6_order (lsA := [.ref (ob 6 0), .int x, .int y]) rfl (Nat.le_of_ble_eq_true rfl) ?_
  intro X h0 h36 h37
  have k37 : ∀ c' r, Q [.int r] (pm c' N) → X 37 [.ref (ob 6 0), .int x, .int y] [.int r] (pm c' N) 0 0 := by
    intro c' r h
    apply h37
    simp only [B_X6_order_37, o_iret, cats_nil, cats_cons, rf_s, rf_n, isR_r, isR_n, isR_rf, cat_i, cat_l, cat_r, cat_n, cat_rf, unl_i, unl_l, unl_r, unl_n, unl_j, unl_rf, orf_r, orf_n, orf_rf, rf_null, mA_pm, mL_pm, mP_pm, List.length_cons, List.length_nil, List.cons_append, List.nil_append, Nat.reduceAdd, Nat.reduceLeDiff, Nat.reduceLT, Nat.reduceEqDiff, Nat.zero_add, Nat.add_zero, Nat.le_refl, Nat.zero_le, true_and, and_true, true_or, or_true, false_or, or_false, reduceIte]
    exact h
  have k36 : ∀ c', Q [.int (-1)] (pm c' N) → X 36 [.ref (ob 6 0), .int x, .int y] [] (pm c' N) 0 0 := by
    intro c' h
    apply h36
    simp only [B_X6_order_36, o_ic, cats_nil, cats_cons, rf_s, rf_n, isR_r, isR_n, isR_rf, cat_i, cat_l, cat_r, cat_n, cat_rf, unl_i, unl_l, unl_r, unl_n, unl_j, unl_rf, orf_r, orf_n, orf_rf, rf_null, mA_pm, mL_pm, mP_pm, List.length_cons, List.length_nil, List.cons_append, List.nil_append, Nat.reduceAdd, Nat.reduceLeDiff, Nat.reduceLT, Nat.reduceEqDiff, Nat.zero_add, Nat.add_zero, Nat.le_refl, Nat.zero_le, true_and, and_true, true_or, or_true, false_or, or_false, reduceIte]
    exact k37 _ _ h
  obtain ⟨⟨a1, a2, a3, a4, a5, a6, a7, a8⟩, b1, b2, b3, b4⟩ := hC
  apply h0
  simp only [B_X6_order_0, o_al, o_il, o_if, o_gf, nth_0, nth_1, nth_2, opV_1, opS_2, mV_6_5, al_6, hc.p6_5, hc.a6, ix_6, mV_2_9, al_2, cI_2, hc.a2, ix_2, mV_2_7, hc.p2_7, kd_15, ix_15, hc.l15, cI_15, cw_15, cats_nil, cats_cons, rf_s, rf_n, isR_r, isR_n, isR_rf, cat_i, cat_l, cat_r, cat_n, cat_rf, unl_i, unl_l, unl_r, unl_n, unl_j, unl_rf, orf_r, orf_n, orf_rf, rf_null, mA_pm, mL_pm, mP_pm, List.length_cons, List.length_nil, List.cons_append, List.nil_append, Nat.reduceAdd, Nat.reduceLeDiff, Nat.reduceLT, Nat.reduceEqDiff, Nat.zero_add, Nat.add_zero, Nat.le_refl, Nat.zero_le, true_and, and_true, true_or, or_true, false_or, or_false, reduceIte]
  refine sp_makePlan (M := M) hc hd hT2 hA2 a1 (fun s hs => (a2 s hs).2.2.2.1) hG hH (b2.hp hT2) x (fun t c' ht ex f1 f2 f3 => ?_) (fun hno => ?_)
  · have hc' := f1.sk hc
    have h29 : mI c' 2 9 0 = nI (gl M t nA).length := f2.1.2.2.1
    have hl := gl_len M t nA
    have hP : PLC c' M nT nA := Or.inr ⟨t, ht, f3, f2⟩
    simp only [o_al, o_il, o_if, o_gf, nth_0, nth_1, nth_2, opV_1, opS_2, mV_6_5, al_6, hc.p6_5, hc.a6, ix_6, mV_2_9, al_2, cI_2, hc.a2, ix_2, mV_2_7, hc.p2_7, kd_15, ix_15, hc.l15, cI_15, cw_15, cats_nil, cats_cons, rf_s, rf_n, isR_r, isR_n, isR_rf, cat_i, cat_l, cat_r, cat_n, cat_rf, unl_i, unl_l, unl_r, unl_n, unl_j, unl_rf, orf_r, orf_n, orf_rf, rf_null, mA_pm, mL_pm, mP_pm, List.length_cons, List.length_nil, List.cons_append, List.nil_append, Nat.reduceAdd, Nat.reduceLeDiff, Nat.reduceLT, Nat.reduceEqDiff, Nat.zero_add, Nat.add_zero, Nat.le_refl, Nat.zero_le, true_and, and_true, true_or, or_true, false_or, or_false, reduceIte, hc'.a6, hc'.a2, hc'.p6_5, h29]
    refine ⟨fun z => absurd z (by decide), fun _ => ?_⟩
    refine sp_within6 y (gl M t nA).length (by omega) _ (fun r hr => ?_)
    simp only [o_al, o_il, o_if, o_gf, nth_0, nth_1, nth_2, opV_1, opS_2, mV_6_5, al_6, hc.p6_5, hc.a6, ix_6, mV_2_9, al_2, cI_2, hc.a2, ix_2, mV_2_7, hc.p2_7, kd_15, ix_15, hc.l15, cI_15, cw_15, cats_nil, cats_cons, rf_s, rf_n, isR_r, isR_n, isR_rf, cat_i, cat_l, cat_r, cat_n, cat_rf, unl_i, unl_l, unl_r, unl_n, unl_j, unl_rf, orf_r, orf_n, orf_rf, rf_null, mA_pm, mL_pm, mP_pm, List.length_cons, List.length_nil, List.cons_append, List.nil_append, Nat.reduceAdd, Nat.reduceLeDiff, Nat.reduceLT, Nat.reduceEqDiff, Nat.zero_add, Nat.add_zero, Nat.le_refl, Nat.zero_le, true_and, and_true, true_or, or_true, false_or, or_false, reduceIte, hc'.a6, hc'.a2, hc'.p6_5, hc'.p2_7]
    rcases hr with ⟨rfl, i, hi, rfl⟩ | ⟨rfl, hno⟩
    · refine ⟨fun z => absurd z (by decide), fun _ => ?_⟩
      refine sp_at (n := 8) (by decide) rfl hc'.l15 (by omega) (by omega) ?_
      simp only [o_al, o_il, o_if, o_gf, nth_0, nth_1, nth_2, opV_1, opS_2, mV_6_5, al_6, hc.p6_5, hc.a6, ix_6, mV_2_9, al_2, cI_2, hc.a2, ix_2, mV_2_7, hc.p2_7, kd_15, ix_15, hc.l15, cI_15, cw_15, cats_nil, cats_cons, rf_s, rf_n, isR_r, isR_n, isR_rf, cat_i, cat_l, cat_r, cat_n, cat_rf, unl_i, unl_l, unl_r, unl_n, unl_j, unl_rf, orf_r, orf_n, orf_rf, rf_null, mA_pm, mL_pm, mP_pm, List.length_cons, List.length_nil, List.cons_append, List.nil_append, Nat.reduceAdd, Nat.reduceLeDiff, Nat.reduceLT, Nat.reduceEqDiff, Nat.zero_add, Nat.add_zero, Nat.le_refl, Nat.zero_le, true_and, and_true, true_or, or_true, false_or, or_false, reduceIte]
      refine k37 _ _ (H _ _ f1 hP (Or.inl ⟨t, i, ht, ex, hi, rfl, f2.2.2.2.1 i hi⟩))
    · refine ⟨fun _ => k36 _ (H _ _ f1 hP (Or.inr ⟨fun t' i ht' e' hi e => ?_, rfl⟩)), fun z => by first | exact absurd rfl z | exact absurd trivial z⟩
      rw [ex, nI_eq_iff] at e'
      subst e'
      exact hno i hi e
  · simp only [o_al, o_il, o_if, o_gf, nth_0, nth_1, nth_2, opV_1, opS_2, mV_6_5, al_6, hc.p6_5, hc.a6, ix_6, mV_2_9, al_2, cI_2, hc.a2, ix_2, mV_2_7, hc.p2_7, kd_15, ix_15, hc.l15, cI_15, cw_15, cats_nil, cats_cons, rf_s, rf_n, isR_r, isR_n, isR_rf, cat_i, cat_l, cat_r, cat_n, cat_rf, unl_i, unl_l, unl_r, unl_n, unl_j, unl_rf, orf_r, orf_n, orf_rf, rf_null, mA_pm, mL_pm, mP_pm, List.length_cons, List.length_nil, List.cons_append, List.nil_append, Nat.reduceAdd, Nat.reduceLeDiff, Nat.reduceLT, Nat.reduceEqDiff, Nat.zero_add, Nat.add_zero, Nat.le_refl, Nat.zero_le, true_and, and_true, true_or, or_true, false_or, or_false, reduceIte]
    exact ⟨fun _ => k36 _ (H _ _ (FRI.rf _ _) b2 (Or.inr ⟨fun t' i ht' e' hi e => hno t' ht' e', rfl⟩)), fun z => by first | exact absurd rfl z | exact absurd trivial z⟩
theorem sp_told6 (hc : SKF c) {nT nR nA : Nat} (hd : SKD c nT nR nA) (hT2 : nT ≤ 12) (hA2 : nA ≤ 150) (hC : CPT c M nT nR nA) (hG : GA M nT nA) (hH : GH M nT) (x w : Int32) (H : ∀ r c', FRI wPl c c' → PLC c' M nT nA → ((∃ t, t < nT ∧ x = nI t ∧ ((w = 0 ∧ r = nI (oV M t nA false).1) ∨ (w = 1 ∧ r = nI (oW M t nA)) ∨ (w = 2 ∧ r = nI (oV M t nA true).1))) ∨ (((∀ t, t < nT → ¬ x = nI t) ∨ ¬ (0 ≤ w ∧ w ≤ 2)) ∧ r = -1)) → Q [.int r] (pm c' N)) : K_X6_told l D (d + 6) [.ref (ob 6 0), .int x, .int w] (pm c N) Q := by
  refine m_X6_told (lsA := [.ref (ob 6 0), .int x, .int w]) rfl (Nat.le_of_ble_eq_true rfl) ?_
  intro X h0 h17 h19 h33 h48 h55
  have k55 : ∀ c' r, Q [.int r] (pm c' N) → X 55 [.ref (ob 6 0), .int x, .int w] [.int r] (pm c' N) 0 0 := by
    intro c' r h
    apply h55
    simp only [B_X6_told_55, o_iret, cats_nil, cats_cons, rf_s, rf_n, isR_r, isR_n, isR_rf, cat_i, cat_l, cat_r, cat_n, cat_rf, unl_i, unl_l, unl_r, unl_n, unl_j, unl_rf, orf_r, orf_n, orf_rf, rf_null, mA_pm, mL_pm, mP_pm, List.length_cons, List.length_nil, List.cons_append, List.nil_append, Nat.reduceAdd, Nat.reduceLeDiff, Nat.reduceLT, Nat.reduceEqDiff, Nat.zero_add, Nat.add_zero, Nat.le_refl, Nat.zero_le, true_and, and_true, true_or, or_true, false_or, or_false, reduceIte]
    exact h
  have k17 : ∀ c', Q [.int (-1)] (pm c' N) → X 17 [.ref (ob 6 0), .int x, .int w] [] (pm c' N) 0 0 := by
    intro c' h
    apply h17
    simp only [B_X6_told_17, o_ic, o_iret, cats_nil, cats_cons, rf_s, rf_n, isR_r, isR_n, isR_rf, cat_i, cat_l, cat_r, cat_n, cat_rf, unl_i, unl_l, unl_r, unl_n, unl_j, unl_rf, orf_r, orf_n, orf_rf, rf_null, mA_pm, mL_pm, mP_pm, List.length_cons, List.length_nil, List.cons_append, List.nil_append, Nat.reduceAdd, Nat.reduceLeDiff, Nat.reduceLT, Nat.reduceEqDiff, Nat.zero_add, Nat.add_zero, Nat.le_refl, Nat.zero_le, true_and, and_true, true_or, or_true, false_or, or_false, reduceIte]
    exact h
  obtain ⟨⟨a1, a2, a3, a4, a5, a6, a7, a8⟩, b1, b2, b3, b4⟩ := hC
  apply h0
  simp only [B_X6_told_0, o_il, o_if, o_ic, o_ic2, o_al, nth_2, nth_0, nth_1, opV_1, al_6, ix_6, hc.a6, cats_nil, cats_cons, rf_s, rf_n, isR_r, isR_n, isR_rf, cat_i, cat_l, cat_r, cat_n, cat_rf, unl_i, unl_l, unl_r, unl_n, unl_j, unl_rf, orf_r, orf_n, orf_rf, rf_null, mA_pm, mL_pm, mP_pm, List.length_cons, List.length_nil, List.cons_append, List.nil_append, Nat.reduceAdd, Nat.reduceLeDiff, Nat.reduceLT, Nat.reduceEqDiff, Nat.zero_add, Nat.add_zero, Nat.le_refl, Nat.zero_le, true_and, and_true, true_or, or_true, false_or, or_false, reduceIte]
  refine ⟨fun q => k17 _ (H _ _ (FRI.rf _ _) b2 (Or.inr ⟨Or.inr (fun z => absurd q (Int32.not_lt.mpr z.1)), rfl⟩)), fun q => ⟨fun q2 => k17 _ (H _ _ (FRI.rf _ _) b2 (Or.inr ⟨Or.inr (fun z => absurd q2 (Int32.not_lt.mpr z.2)), rfl⟩)), fun q2 => ?_⟩⟩
  obtain ⟨i, hi, rfl⟩ := in_nI (x := w) (n := 3) (by omega) ⟨Int32.not_lt.mp q, by rw [show nI 3 - 1 = 2 by decide]; exact Int32.not_lt.mp q2⟩
  refine sp_makePlan (M := M) hc hd hT2 hA2 a1 (fun s hs => (a2 s hs).2.2.2.1) hG hH (b2.hp hT2) x (fun t c' ht ex f1 f2 f3 => ?_) (fun hno => ?_)
  · have hc' := f1.sk hc
    have hP : PLC c' M nT nA := Or.inr ⟨t, ht, f3, f2⟩
    simp only [o_il, o_if, o_ic, o_ic2, o_al, nth_2, nth_0, nth_1, opV_1, al_6, ix_6, hc.a6, cats_nil, cats_cons, rf_s, rf_n, isR_r, isR_n, isR_rf, cat_i, cat_l, cat_r, cat_n, cat_rf, unl_i, unl_l, unl_r, unl_n, unl_j, unl_rf, orf_r, orf_n, orf_rf, rf_null, mA_pm, mL_pm, mP_pm, List.length_cons, List.length_nil, List.cons_append, List.nil_append, Nat.reduceAdd, Nat.reduceLeDiff, Nat.reduceLT, Nat.reduceEqDiff, Nat.zero_add, Nat.add_zero, Nat.le_refl, Nat.zero_le, true_and, and_true, true_or, or_true, false_or, or_false, reduceIte]
    refine ⟨fun z => absurd z (by decide), fun _ => ?_⟩
    apply h19
    simp only [B_X6_told_19, o_il, o_if, o_al, o_gf, nth_2, nth_0, mV_6_5, al_6, hc.p6_5, hc.a6, ix_6, mV_2_11, al_2, cI_2, hc.a2, ix_2, cats_nil, cats_cons, rf_s, rf_n, isR_r, isR_n, isR_rf, cat_i, cat_l, cat_r, cat_n, cat_rf, unl_i, unl_l, unl_r, unl_n, unl_j, unl_rf, orf_r, orf_n, orf_rf, rf_null, mA_pm, mL_pm, mP_pm, List.length_cons, List.length_nil, List.cons_append, List.nil_append, Nat.reduceAdd, Nat.reduceLeDiff, Nat.reduceLT, Nat.reduceEqDiff, Nat.zero_add, Nat.add_zero, Nat.le_refl, Nat.zero_le, true_and, and_true, true_or, or_true, false_or, or_false, reduceIte, hc'.a6, hc'.a2, hc'.p6_5]
    have hi3 : i = 0 ∨ i = 1 ∨ i = 2 := by omega
    rcases hi3 with rfl | rfl | rfl
    · refine ⟨fun _ => k55 _ _ (H _ _ f1 hP (Or.inl ⟨t, ht, ex, Or.inl ⟨by decide, f2.2.2.2.2.1⟩⟩)), fun z => absurd (by decide) z⟩
    · refine ⟨fun z => absurd z (by decide), fun _ => ?_⟩
      apply h33
      simp only [B_X6_told_33, o_il, o_ic, o_ic2, o_al, o_gf, nth_2, nth_0, mV_6_5, al_6, hc.p6_5, hc.a6, ix_6, mV_2_12, al_2, cI_2, hc.a2, ix_2, cats_nil, cats_cons, rf_s, rf_n, isR_r, isR_n, isR_rf, cat_i, cat_l, cat_r, cat_n, cat_rf, unl_i, unl_l, unl_r, unl_n, unl_j, unl_rf, orf_r, orf_n, orf_rf, rf_null, mA_pm, mL_pm, mP_pm, List.length_cons, List.length_nil, List.cons_append, List.nil_append, Nat.reduceAdd, Nat.reduceLeDiff, Nat.reduceLT, Nat.reduceEqDiff, Nat.zero_add, Nat.add_zero, Nat.le_refl, Nat.zero_le, true_and, and_true, true_or, or_true, false_or, or_false, reduceIte, hc'.a6, hc'.a2, hc'.p6_5]
      refine ⟨fun _ => k55 _ _ (H _ _ f1 hP (Or.inl ⟨t, ht, ex, Or.inr (Or.inl ⟨by decide, f2.2.2.2.2.2.1⟩)⟩)), fun z => absurd (by decide) z⟩
    · refine ⟨fun z => absurd z (by decide), fun _ => ?_⟩
      apply h33
      simp only [B_X6_told_33, o_il, o_ic, o_ic2, o_al, o_gf, nth_2, nth_0, mV_6_5, al_6, hc.p6_5, hc.a6, ix_6, mV_2_12, al_2, cI_2, hc.a2, ix_2, cats_nil, cats_cons, rf_s, rf_n, isR_r, isR_n, isR_rf, cat_i, cat_l, cat_r, cat_n, cat_rf, unl_i, unl_l, unl_r, unl_n, unl_j, unl_rf, orf_r, orf_n, orf_rf, rf_null, mA_pm, mL_pm, mP_pm, List.length_cons, List.length_nil, List.cons_append, List.nil_append, Nat.reduceAdd, Nat.reduceLeDiff, Nat.reduceLT, Nat.reduceEqDiff, Nat.zero_add, Nat.add_zero, Nat.le_refl, Nat.zero_le, true_and, and_true, true_or, or_true, false_or, or_false, reduceIte]
      refine ⟨fun z => absurd z (by decide), fun _ => ?_⟩
      apply h48
      simp only [B_X6_told_48, o_al, o_gf, nth_0, opV_0, mV_6_5, al_6, hc.p6_5, hc.a6, ix_6, al_2, ix_2, hc.a2, cats_nil, cats_cons, rf_s, rf_n, isR_r, isR_n, isR_rf, cat_i, cat_l, cat_r, cat_n, cat_rf, unl_i, unl_l, unl_r, unl_n, unl_j, unl_rf, orf_r, orf_n, orf_rf, rf_null, mA_pm, mL_pm, mP_pm, List.length_cons, List.length_nil, List.cons_append, List.nil_append, Nat.reduceAdd, Nat.reduceLeDiff, Nat.reduceLT, Nat.reduceEqDiff, Nat.zero_add, Nat.add_zero, Nat.le_refl, Nat.zero_le, true_and, and_true, true_or, or_true, false_or, or_false, reduceIte, hc'.a6, hc'.a2, hc'.p6_5]
      obtain ⟨p1, ⟨m, p2⟩, p3, p4, p5, p6, p7⟩ := id f2
      refine sp_leastWaits hc' p1 p2 p3 p7 (fun c2 g1 g2 => ?_)
      simp only [o_al, o_gf, nth_0, opV_0, mV_6_5, al_6, hc.p6_5, hc.a6, ix_6, al_2, ix_2, hc.a2, cats_nil, cats_cons, rf_s, rf_n, isR_r, isR_n, isR_rf, cat_i, cat_l, cat_r, cat_n, cat_rf, unl_i, unl_l, unl_r, unl_n, unl_j, unl_rf, orf_r, orf_n, orf_rf, rf_null, mA_pm, mL_pm, mP_pm, List.length_cons, List.length_nil, List.cons_append, List.nil_append, Nat.reduceAdd, Nat.reduceLeDiff, Nat.reduceLT, Nat.reduceEqDiff, Nat.zero_add, Nat.add_zero, Nat.le_refl, Nat.zero_le, true_and, and_true, true_or, or_true, false_or, or_false, reduceIte]
      refine k55 _ _ (H _ _ (f1.tr (g1.mo (fun k i j z => ⟨z.1, by have := z.2; omega⟩))) (Or.inr ⟨t, ht, ?_, f2.lw g1 g2⟩) (Or.inl ⟨t, ht, ex, Or.inr (Or.inr ⟨by decide, rfl⟩)⟩))
      rw [g1.I (fun z => by have := z.2; omega)]
      exact f3
  · simp only [o_il, o_if, o_ic, o_ic2, o_al, nth_2, nth_0, nth_1, opV_1, al_6, ix_6, hc.a6, cats_nil, cats_cons, rf_s, rf_n, isR_r, isR_n, isR_rf, cat_i, cat_l, cat_r, cat_n, cat_rf, unl_i, unl_l, unl_r, unl_n, unl_j, unl_rf, orf_r, orf_n, orf_rf, rf_null, mA_pm, mL_pm, mP_pm, List.length_cons, List.length_nil, List.cons_append, List.nil_append, Nat.reduceAdd, Nat.reduceLeDiff, Nat.reduceLT, Nat.reduceEqDiff, Nat.zero_add, Nat.add_zero, Nat.le_refl, Nat.zero_le, true_and, and_true, true_or, or_true, false_or, or_false, reduceIte]
    exact ⟨fun _ => k17 _ (H _ _ (FRI.rf _ _) b2 (Or.inr ⟨Or.inl hno, rfl⟩)), fun z => by first | exact absurd rfl z | exact absurd trivial z⟩
theorem sp_mends6 (hc : SKF c) {nT nR nA : Nat} (hd : SKD c nT nR nA) (hR2 : nR ≤ 3) (hR : CRd c M nR) (x : Int32) (H : ∀ r c', (∃ k, k < nR ∧ x = nI k ∧ M.1 36 k = 4 ∧ r = 1 ∧ c' = wI c 3 2 k (if M.1 37 k = -1 then 0 else 3)) ∨ ((∀ k, k < nR → x = nI k → ¬ M.1 36 k = 4) ∧ r = 0 ∧ c' = c) → Q [.int r] (pm c' N)) : K_X6_mends l D (d + 2) [.ref (ob 6 0), .int x] (pm c N) Q := by
  refine m_X6_mends (lsA := [.ref (ob 6 0), .int x, jk]) rfl (Nat.le_of_ble_eq_true rfl) ?_
  intro X h0 h18 h20 h33 h34
  have k18 : (∀ k, k < nR → x = nI k → ¬ M.1 36 k = 4) → ∀ ls, X 18 ls [] (pm c N) 0 0 := by
    intro q ls
    apply h18
    simp only [B_X6_mends_18, o_ic, o_zret, cats_nil, cats_cons, rf_s, rf_n, isR_r, isR_n, isR_rf, cat_i, cat_l, cat_r, cat_n, cat_rf, unl_i, unl_l, unl_r, unl_n, unl_j, unl_rf, orf_r, orf_n, orf_rf, rf_null, mA_pm, mL_pm, mP_pm, List.length_cons, List.length_nil, List.cons_append, List.nil_append, Nat.reduceAdd, Nat.reduceLeDiff, Nat.reduceLT, Nat.reduceEqDiff, Nat.zero_add, Nat.add_zero, Nat.le_refl, Nat.zero_le, true_and, and_true, true_or, or_true, false_or, or_false, reduceIte]
    exact H _ _ (Or.inr ⟨q, rfl, rfl⟩)
  apply h0
  simp only [B_X6_mends_0, o_al, o_il, o_as, o_ifn, o_gf, o_ic, o_ic2, nth_0, nth_1, lset_2, nth_2, opV_1, mV_3_2, al_3, cI_3, ix_3, al_6, ix_6, hc.a6, cats_nil, cats_cons, rf_s, rf_n, isR_r, isR_n, isR_rf, cat_i, cat_l, cat_r, cat_n, cat_rf, unl_i, unl_l, unl_r, unl_n, unl_j, unl_rf, orf_r, orf_n, orf_rf, rf_null, mA_pm, mL_pm, mP_pm, List.length_cons, List.length_nil, List.cons_append, List.nil_append, Nat.reduceAdd, Nat.reduceLeDiff, Nat.reduceLT, Nat.reduceEqDiff, Nat.zero_add, Nat.add_zero, Nat.le_refl, Nat.zero_le, true_and, and_true, true_or, or_true, false_or, or_false, reduceIte]
  refine sp_readerAt hc hd hR2 x (fun v hv => ?_)
  rcases hv with ⟨k, hk, rfl, rfl⟩ | ⟨hno, rfl⟩
  rotate_left
  · simp only [o_al, o_il, o_as, o_ifn, o_gf, o_ic, o_ic2, nth_0, nth_1, lset_2, nth_2, opV_1, mV_3_2, al_3, cI_3, ix_3, al_6, ix_6, hc.a6, cats_nil, cats_cons, rf_s, rf_n, isR_r, isR_n, isR_rf, cat_i, cat_l, cat_r, cat_n, cat_rf, unl_i, unl_l, unl_r, unl_n, unl_j, unl_rf, orf_r, orf_n, orf_rf, rf_null, mA_pm, mL_pm, mP_pm, List.length_cons, List.length_nil, List.cons_append, List.nil_append, Nat.reduceAdd, Nat.reduceLeDiff, Nat.reduceLT, Nat.reduceEqDiff, Nat.zero_add, Nat.add_zero, Nat.le_refl, Nat.zero_le, true_and, and_true, true_or, or_true, false_or, or_false, reduceIte]
    exact ⟨fun _ => k18 (fun k hk e => absurd e (hno k hk)) _, fun z => by first | exact absurd rfl z | exact absurd trivial z⟩
  have ha := (hd.2.2.2.2.1 k hk).1
  obtain ⟨r1, r2, r3, -⟩ := hR k hk
  have k34 : M.1 36 k = 4 → ∀ y : Int32, y = (if M.1 37 k = -1 then 0 else 3) → X 34 [.ref (ob 6 0), .int (nI k), .ref (ob 3 k)] [.int y, .ref (ob 3 k)] (pm c N) 0 0 := by
    intro h4 y hy
    apply h34
    simp only [B_X6_mends_34, o_pI, o_ic, o_zret, al_3, ix_3, cw_3, cats_nil, cats_cons, rf_s, rf_n, isR_r, isR_n, isR_rf, cat_i, cat_l, cat_r, cat_n, cat_rf, unl_i, unl_l, unl_r, unl_n, unl_j, unl_rf, orf_r, orf_n, orf_rf, rf_null, mA_pm, mL_pm, mP_pm, List.length_cons, List.length_nil, List.cons_append, List.nil_append, Nat.reduceAdd, Nat.reduceLeDiff, Nat.reduceLT, Nat.reduceEqDiff, Nat.zero_add, Nat.add_zero, Nat.le_refl, Nat.zero_le, true_and, and_true, true_or, or_true, false_or, or_false, reduceIte, ha]
    exact H _ _ (Or.inl ⟨k, hk, rfl, h4, rfl, by rw [hy]⟩)
  simp only [o_al, o_il, o_as, o_ifn, o_gf, o_ic, o_ic2, nth_0, nth_1, lset_2, nth_2, opV_1, mV_3_2, al_3, cI_3, ix_3, al_6, ix_6, hc.a6, cats_nil, cats_cons, rf_s, rf_n, isR_r, isR_n, isR_rf, cat_i, cat_l, cat_r, cat_n, cat_rf, unl_i, unl_l, unl_r, unl_n, unl_j, unl_rf, orf_r, orf_n, orf_rf, rf_null, mA_pm, mL_pm, mP_pm, List.length_cons, List.length_nil, List.cons_append, List.nil_append, Nat.reduceAdd, Nat.reduceLeDiff, Nat.reduceLT, Nat.reduceEqDiff, Nat.zero_add, Nat.add_zero, Nat.le_refl, Nat.zero_le, true_and, and_true, true_or, or_true, false_or, or_false, reduceIte, ha, r2, rnn, false_imp_iff, not_false_eq_true, true_imp_iff]
  refine ⟨fun q => ?_, fun q => k18 (fun k' hk' e => by rw [nI_eq_iff] at e; subst e; exact q) _⟩
  apply h20
  simp only [B_X6_mends_20, o_al, o_gf, o_ic, o_ic2, nth_2, mV_3_3, al_3, cI_3, ix_3, cats_nil, cats_cons, rf_s, rf_n, isR_r, isR_n, isR_rf, cat_i, cat_l, cat_r, cat_n, cat_rf, unl_i, unl_l, unl_r, unl_n, unl_j, unl_rf, orf_r, orf_n, orf_rf, rf_null, mA_pm, mL_pm, mP_pm, List.length_cons, List.length_nil, List.cons_append, List.nil_append, Nat.reduceAdd, Nat.reduceLeDiff, Nat.reduceLT, Nat.reduceEqDiff, Nat.zero_add, Nat.add_zero, Nat.le_refl, Nat.zero_le, true_and, and_true, true_or, or_true, false_or, or_false, reduceIte, ha, r3]
  refine ⟨fun z => k34 q _ (by rw [if_pos z]), fun z => ?_⟩
  apply h33
  simp only [B_X6_mends_33, o_ic, cats_nil, cats_cons, rf_s, rf_n, isR_r, isR_n, isR_rf, cat_i, cat_l, cat_r, cat_n, cat_rf, unl_i, unl_l, unl_r, unl_n, unl_j, unl_rf, orf_r, orf_n, orf_rf, rf_null, mA_pm, mL_pm, mP_pm, List.length_cons, List.length_nil, List.cons_append, List.nil_append, Nat.reduceAdd, Nat.reduceLeDiff, Nat.reduceLT, Nat.reduceEqDiff, Nat.zero_add, Nat.add_zero, Nat.le_refl, Nat.zero_le, true_and, and_true, true_or, or_true, false_or, or_false, reduceIte]
  exact k34 q _ (by rw [if_neg z])
theorem sp_settings6 (hc : SKF c) (x y : Int32) (H : ∀ r c', (r = 1 ∧ ((-1000 ≤ x ∧ x ≤ 10000) ∧ 0 ≤ y ∧ y ≤ 10000) ∧ c' = wI (wI c 6 11 0 x) 6 12 0 y ∨ r = 0 ∧ ¬ ((-1000 ≤ x ∧ x ≤ 10000) ∧ 0 ≤ y ∧ y ≤ 10000) ∧ c' = c) → Q [.int r] (pm c' N)) : K_X6_settings l D (d + 1) [.ref (ob 6 0), .int x, .int y] (pm c N) Q := by
  refine m_X6_settings (lsA := [.ref (ob 6 0), .int x, .int y]) rfl (Nat.le_of_ble_eq_true rfl) ?_
  intro X h0 h25 h27
  have k25 : ¬ ((-1000 ≤ x ∧ x ≤ 10000) ∧ 0 ≤ y ∧ y ≤ 10000) → X 25 [.ref (ob 6 0), .int x, .int y] [] (pm c N) 0 0 := by
    intro q
    apply h25
    simp only [B_X6_settings_25, o_ic, o_zret, cats_nil, cats_cons, rf_s, rf_n, isR_r, isR_n, isR_rf, cat_i, cat_l, cat_r, cat_n, cat_rf, unl_i, unl_l, unl_r, unl_n, unl_j, unl_rf, orf_r, orf_n, orf_rf, rf_null, mA_pm, mL_pm, mP_pm, List.length_cons, List.length_nil, List.cons_append, List.nil_append, Nat.reduceAdd, Nat.reduceLeDiff, Nat.reduceLT, Nat.reduceEqDiff, Nat.zero_add, Nat.add_zero, Nat.le_refl, Nat.zero_le, true_and, and_true, true_or, or_true, false_or, or_false, reduceIte]
    exact H _ _ (Or.inr ⟨rfl, q, rfl⟩)
  apply h0
  simp only [B_X6_settings_0, o_il, o_ic, o_ic2, o_if, nth_1, nth_2, cats_nil, cats_cons, rf_s, rf_n, isR_r, isR_n, isR_rf, cat_i, cat_l, cat_r, cat_n, cat_rf, unl_i, unl_l, unl_r, unl_n, unl_j, unl_rf, orf_r, orf_n, orf_rf, rf_null, mA_pm, mL_pm, mP_pm, List.length_cons, List.length_nil, List.cons_append, List.nil_append, Nat.reduceAdd, Nat.reduceLeDiff, Nat.reduceLT, Nat.reduceEqDiff, Nat.zero_add, Nat.add_zero, Nat.le_refl, Nat.zero_le, true_and, and_true, true_or, or_true, false_or, or_false, reduceIte]
  refine ⟨fun q => k25 (fun z => absurd q (Int32.not_lt.mpr z.1.1)), fun q => ⟨fun q2 => k25 (fun z => absurd q2 (Int32.not_lt.mpr z.1.2)), fun q2 => ⟨fun q3 => k25 (fun z => absurd q3 (Int32.not_lt.mpr z.2.1)), fun q3 => ⟨fun q4 => ?_, fun q4 => k25 (fun z => q4 z.2.2)⟩⟩⟩⟩
  apply h27
  simp only [B_X6_settings_27, o_al, o_il, o_pI, o_ic, o_zret, nth_0, nth_1, nth_2, al_6, ix_6, cw_6, hc.a6, cats_nil, cats_cons, rf_s, rf_n, isR_r, isR_n, isR_rf, cat_i, cat_l, cat_r, cat_n, cat_rf, unl_i, unl_l, unl_r, unl_n, unl_j, unl_rf, orf_r, orf_n, orf_rf, rf_null, mA_pm, mL_pm, mP_pm, List.length_cons, List.length_nil, List.cons_append, List.nil_append, Nat.reduceAdd, Nat.reduceLeDiff, Nat.reduceLT, Nat.reduceEqDiff, Nat.zero_add, Nat.add_zero, Nat.le_refl, Nat.zero_le, true_and, and_true, true_or, or_true, false_or, or_false, reduceIte, hc.a6, mA_wI]
  exact H _ _ (Or.inl ⟨rfl, ⟨⟨Int32.not_lt.mp q, Int32.not_lt.mp q2⟩, Int32.not_lt.mp q3, q4⟩, rfl⟩)
theorem sp_item6 (hc : SKF c) {n : Nat} (h : mI c 4 4 0 = nI n) (hn : n ≤ 8) (x y : Int32) (H : ∀ r c', (((1 ≤ x ∧ x ≤ 50) ∧ (0 ≤ y ∧ y ≤ 1000) ∧ n < 8) ∧ r = nI n ∧ c' = itC c n x y) ∨ (¬ ((1 ≤ x ∧ x ≤ 50) ∧ (0 ≤ y ∧ y ≤ 1000) ∧ n < 8) ∧ r = -1 ∧ c' = c) → Q [.int r] (pm c' N)) : K_X6_item l D (d + 3) [.ref (ob 6 0), .int x, .int y] (pm c N) Q := by
  refine m_X6_item (lsA := [.ref (ob 6 0), .int x, .int y]) rfl (Nat.le_of_ble_eq_true rfl) ?_
  intro X h0 h32 h34
  have k32 : ¬ ((1 ≤ x ∧ x ≤ 50) ∧ (0 ≤ y ∧ y ≤ 1000) ∧ n < 8) → X 32 [.ref (ob 6 0), .int x, .int y] [] (pm c N) 0 0 := by
    intro q
    apply h32
    simp only [B_X6_item_32, o_ic, o_iret, cats_nil, cats_cons, rf_s, rf_n, isR_r, isR_n, isR_rf, cat_i, cat_l, cat_r, cat_n, cat_rf, unl_i, unl_l, unl_r, unl_n, unl_j, unl_rf, orf_r, orf_n, orf_rf, rf_null, mA_pm, mL_pm, mP_pm, List.length_cons, List.length_nil, List.cons_append, List.nil_append, Nat.reduceAdd, Nat.reduceLeDiff, Nat.reduceLT, Nat.reduceEqDiff, Nat.zero_add, Nat.add_zero, Nat.le_refl, Nat.zero_le, true_and, and_true, true_or, or_true, false_or, or_false, reduceIte]
    exact H _ _ (Or.inr ⟨q, rfl, rfl⟩)
  apply h0
  simp only [B_X6_item_0, o_il, o_ic, o_ic2, o_if, o_al, o_gf, nth_1, nth_2, nth_0, opV_0, mV_6_6, al_6, hc.p6_6, hc.a6, ix_6, al_4, ix_4, hc.a4, cats_nil, cats_cons, rf_s, rf_n, isR_r, isR_n, isR_rf, cat_i, cat_l, cat_r, cat_n, cat_rf, unl_i, unl_l, unl_r, unl_n, unl_j, unl_rf, orf_r, orf_n, orf_rf, rf_null, mA_pm, mL_pm, mP_pm, List.length_cons, List.length_nil, List.cons_append, List.nil_append, Nat.reduceAdd, Nat.reduceLeDiff, Nat.reduceLT, Nat.reduceEqDiff, Nat.zero_add, Nat.add_zero, Nat.le_refl, Nat.zero_le, true_and, and_true, true_or, or_true, false_or, or_false, reduceIte, hc.a6, hc.a4, hc.p6_6]
  refine ⟨fun q => k32 (fun z => absurd q (Int32.not_lt.mpr z.1.1)), fun q => ⟨fun q2 => k32 (fun z => absurd q2 (Int32.not_lt.mpr z.1.2)), fun q2 => ⟨fun q3 => k32 (fun z => absurd q3 (Int32.not_lt.mpr z.2.1.1)), fun q3 => ⟨fun q4 => k32 (fun z => absurd q4 (Int32.not_lt.mpr z.2.1.2)), fun q4 => ?_⟩⟩⟩⟩
  refine sp_isFull4 hc h hn ?_
  simp only [o_il, o_ic, o_ic2, o_if, o_al, o_gf, nth_1, nth_2, nth_0, opV_0, mV_6_6, al_6, hc.p6_6, hc.a6, ix_6, al_4, ix_4, hc.a4, cats_nil, cats_cons, rf_s, rf_n, isR_r, isR_n, isR_rf, cat_i, cat_l, cat_r, cat_n, cat_rf, unl_i, unl_l, unl_r, unl_n, unl_j, unl_rf, orf_r, orf_n, orf_rf, rf_null, mA_pm, mL_pm, mP_pm, List.length_cons, List.length_nil, List.cons_append, List.nil_append, Nat.reduceAdd, Nat.reduceLeDiff, Nat.reduceLT, Nat.reduceEqDiff, Nat.zero_add, Nat.add_zero, Nat.le_refl, Nat.zero_le, true_and, and_true, true_or, or_true, false_or, or_false, reduceIte]
  refine ⟨fun q5 => ?_, fun q5 => k32 (fun z => bi_ne0 q5 z.2.2)⟩
  have hn8 : n < 8 := Decidable.not_not.mp (bi_e0 q5)
  apply h34
  simp only [B_X6_item_34, o_al, o_gf, o_il, o_iret, nth_0, nth_1, nth_2, opV_2, mV_6_6, al_6, hc.p6_6, hc.a6, ix_6, al_4, ix_4, hc.a4, cats_nil, cats_cons, rf_s, rf_n, isR_r, isR_n, isR_rf, cat_i, cat_l, cat_r, cat_n, cat_rf, unl_i, unl_l, unl_r, unl_n, unl_j, unl_rf, orf_r, orf_n, orf_rf, rf_null, mA_pm, mL_pm, mP_pm, List.length_cons, List.length_nil, List.cons_append, List.nil_append, Nat.reduceAdd, Nat.reduceLeDiff, Nat.reduceLT, Nat.reduceEqDiff, Nat.zero_add, Nat.add_zero, Nat.le_refl, Nat.zero_le, true_and, and_true, true_or, or_true, false_or, or_false, reduceIte, hc.a6, hc.a4, hc.p6_6]
  refine sp_add4 hc h hn8 x y ?_
  simp only [o_al, o_gf, o_il, o_iret, nth_0, nth_1, nth_2, opV_2, mV_6_6, al_6, hc.p6_6, hc.a6, ix_6, al_4, ix_4, hc.a4, cats_nil, cats_cons, rf_s, rf_n, isR_r, isR_n, isR_rf, cat_i, cat_l, cat_r, cat_n, cat_rf, unl_i, unl_l, unl_r, unl_n, unl_j, unl_rf, orf_r, orf_n, orf_rf, rf_null, mA_pm, mL_pm, mP_pm, List.length_cons, List.length_nil, List.cons_append, List.nil_append, Nat.reduceAdd, Nat.reduceLeDiff, Nat.reduceLT, Nat.reduceEqDiff, Nat.zero_add, Nat.add_zero, Nat.le_refl, Nat.zero_le, true_and, and_true, true_or, or_true, false_or, or_false, reduceIte]
  exact H _ _ (Or.inl ⟨⟨⟨Int32.not_lt.mp q, Int32.not_lt.mp q2⟩, ⟨Int32.not_lt.mp q3, Int32.not_lt.mp q4⟩, hn8⟩, rfl, rfl⟩)
theorem sp_laid6 (hc : SKF c) {n : Nat} {sz ct : Nat → Nat} (hS : SHD c n sz ct) (hL : (mI c 4 7 0 = 1 ∧ LDF c n sz ct) ∨ mI c 4 7 0 = 0) (H : ∀ c', FRJ wY c c' → mI c' 4 7 0 = 1 → LDF c' n sz ct → Q [.long (lN (LV n sz ct n 0).1)] (pm c' N)) : K_X6_laid l D (d + 5) [.ref (ob 6 0)] (pm c N) Q := by
  refine m_X6_laid (lsA := [.ref (ob 6 0)]) rfl (Nat.le_of_ble_eq_true rfl) ?_
  intro X h0
  apply h0
  simp only [B_X6_laid_0, o_al, o_gf, o_lret, nth_0, opV_0, mV_6_6, al_6, hc.p6_6, hc.a6, ix_6, mV_4_6, al_4, cJ_4, hc.a4, ix_4, cats_nil, cats_cons, rf_s, rf_n, isR_r, isR_n, isR_rf, cat_i, cat_l, cat_r, cat_n, cat_rf, unl_i, unl_l, unl_r, unl_n, unl_j, unl_rf, orf_r, orf_n, orf_rf, rf_null, mA_pm, mL_pm, mP_pm, List.length_cons, List.length_nil, List.cons_append, List.nil_append, Nat.reduceAdd, Nat.reduceLeDiff, Nat.reduceLT, Nat.reduceEqDiff, Nat.zero_add, Nat.add_zero, Nat.le_refl, Nat.zero_le, true_and, and_true, true_or, or_true, false_or, or_false, reduceIte, hc.a6, hc.a4, hc.p6_6]
  refine sp_lay hc hS hL (fun c' g1 g2 g3 => ?_)
  have hc' := g1.sk hc
  simp only [o_al, o_gf, o_lret, nth_0, opV_0, mV_6_6, al_6, hc.p6_6, hc.a6, ix_6, mV_4_6, al_4, cJ_4, hc.a4, ix_4, cats_nil, cats_cons, rf_s, rf_n, isR_r, isR_n, isR_rf, cat_i, cat_l, cat_r, cat_n, cat_rf, unl_i, unl_l, unl_r, unl_n, unl_j, unl_rf, orf_r, orf_n, orf_rf, rf_null, mA_pm, mL_pm, mP_pm, List.length_cons, List.length_nil, List.cons_append, List.nil_append, Nat.reduceAdd, Nat.reduceLeDiff, Nat.reduceLT, Nat.reduceEqDiff, Nat.zero_add, Nat.add_zero, Nat.le_refl, Nat.zero_le, true_and, and_true, true_or, or_true, false_or, or_false, reduceIte, hc'.a6, hc'.a4, hc'.p6_6, cJ_4, g3.1]
  exact H _ g1 g2 g3
theorem sp_begins6 (hc : SKF c) {n : Nat} {sz ct : Nat → Nat} (hS : SHD c n sz ct) (hL : (mI c 4 7 0 = 1 ∧ LDF c n sz ct) ∨ mI c 4 7 0 = 0) (x : Int32) (H : ∀ r c', (∃ i, i < n ∧ x = nI i ∧ r = nI (stO sz (LV n sz ct n 0).2 0 i) ∧ FRJ wY c c' ∧ mI c' 4 7 0 = 1 ∧ LDF c' n sz ct) ∨ ((∀ i, i < n → ¬ x = nI i) ∧ r = -1 ∧ c' = c) → Q [.int r] (pm c' N)) : K_X6_begins l D (d + 5) [.ref (ob 6 0), .int x] (pm c N) Q := by
  refine m_X6_begins (lsA := [.ref (ob 6 0), .int x]) rfl (Nat.le_of_ble_eq_true rfl) ?_
  intro X h0 h16
  obtain ⟨s1, s2, -⟩ := id hS
  apply h0
  simp only [B_X6_begins_0, o_il, o_al, o_gf, o_if, o_ic, o_iret, nth_1, nth_0, opS_2, mV_6_6, al_6, hc.p6_6, hc.a6, ix_6, mV_4_4, al_4, cI_4, hc.a4, ix_4, cats_nil, cats_cons, rf_s, rf_n, isR_r, isR_n, isR_rf, cat_i, cat_l, cat_r, cat_n, cat_rf, unl_i, unl_l, unl_r, unl_n, unl_j, unl_rf, orf_r, orf_n, orf_rf, rf_null, mA_pm, mL_pm, mP_pm, List.length_cons, List.length_nil, List.cons_append, List.nil_append, Nat.reduceAdd, Nat.reduceLeDiff, Nat.reduceLT, Nat.reduceEqDiff, Nat.zero_add, Nat.add_zero, Nat.le_refl, Nat.zero_le, true_and, and_true, true_or, or_true, false_or, or_false, reduceIte, hc.a6, hc.a4, hc.p6_6, s2]
  refine sp_within6 x n (by omega) _ (fun r hr => ?_)
  simp only [o_il, o_al, o_gf, o_if, o_ic, o_iret, nth_1, nth_0, opS_2, mV_6_6, al_6, hc.p6_6, hc.a6, ix_6, mV_4_4, al_4, cI_4, hc.a4, ix_4, cats_nil, cats_cons, rf_s, rf_n, isR_r, isR_n, isR_rf, cat_i, cat_l, cat_r, cat_n, cat_rf, unl_i, unl_l, unl_r, unl_n, unl_j, unl_rf, orf_r, orf_n, orf_rf, rf_null, mA_pm, mL_pm, mP_pm, List.length_cons, List.length_nil, List.cons_append, List.nil_append, Nat.reduceAdd, Nat.reduceLeDiff, Nat.reduceLT, Nat.reduceEqDiff, Nat.zero_add, Nat.add_zero, Nat.le_refl, Nat.zero_le, true_and, and_true, true_or, or_true, false_or, or_false, reduceIte]
  rcases hr with ⟨rfl, i, hi, rfl⟩ | ⟨rfl, hno⟩
  · refine ⟨fun z => absurd z (by decide), fun _ => ?_⟩
    apply h16
    simp only [B_X6_begins_16, o_al, o_gf, o_il, o_iret, nth_0, nth_1, opV_0, opS_2, mV_6_6, al_6, hc.p6_6, hc.a6, ix_6, mV_4_2, al_4, hc.p4_2, kd_18, ix_18, hc.l18, cI_18, cw_18, cJ_18, cv_18, hc.a4, ix_4, cats_nil, cats_cons, rf_s, rf_n, isR_r, isR_n, isR_rf, cat_i, cat_l, cat_r, cat_n, cat_rf, unl_i, unl_l, unl_r, unl_n, unl_j, unl_rf, orf_r, orf_n, orf_rf, rf_null, mA_pm, mL_pm, mP_pm, List.length_cons, List.length_nil, List.cons_append, List.nil_append, Nat.reduceAdd, Nat.reduceLeDiff, Nat.reduceLT, Nat.reduceEqDiff, Nat.zero_add, Nat.add_zero, Nat.le_refl, Nat.zero_le, true_and, and_true, true_or, or_true, false_or, or_false, reduceIte, hc.a6, hc.a4, hc.p6_6]
    refine sp_lay hc hS hL (fun c' g1 g2 g3 => ?_)
    have hc' := g1.sk hc
    simp only [o_al, o_gf, o_il, o_iret, nth_0, nth_1, opV_0, opS_2, mV_6_6, al_6, hc.p6_6, hc.a6, ix_6, mV_4_2, al_4, hc.p4_2, kd_18, ix_18, hc.l18, cI_18, cw_18, cJ_18, cv_18, hc.a4, ix_4, cats_nil, cats_cons, rf_s, rf_n, isR_r, isR_n, isR_rf, cat_i, cat_l, cat_r, cat_n, cat_rf, unl_i, unl_l, unl_r, unl_n, unl_j, unl_rf, orf_r, orf_n, orf_rf, rf_null, mA_pm, mL_pm, mP_pm, List.length_cons, List.length_nil, List.cons_append, List.nil_append, Nat.reduceAdd, Nat.reduceLeDiff, Nat.reduceLT, Nat.reduceEqDiff, Nat.zero_add, Nat.add_zero, Nat.le_refl, Nat.zero_le, true_and, and_true, true_or, or_true, false_or, or_false, reduceIte, hc'.a6, hc'.a4, hc'.p6_6, hc'.p4_2]
    refine sp_at (n := 8) (by decide) rfl hc'.l18 (by omega) (by omega) ?_
    rw [g3.2 i hi]
    simp only [o_al, o_gf, o_il, o_iret, nth_0, nth_1, opV_0, opS_2, mV_6_6, al_6, hc.p6_6, hc.a6, ix_6, mV_4_2, al_4, hc.p4_2, kd_18, ix_18, hc.l18, cI_18, cw_18, cJ_18, cv_18, hc.a4, ix_4, cats_nil, cats_cons, rf_s, rf_n, isR_r, isR_n, isR_rf, cat_i, cat_l, cat_r, cat_n, cat_rf, unl_i, unl_l, unl_r, unl_n, unl_j, unl_rf, orf_r, orf_n, orf_rf, rf_null, mA_pm, mL_pm, mP_pm, List.length_cons, List.length_nil, List.cons_append, List.nil_append, Nat.reduceAdd, Nat.reduceLeDiff, Nat.reduceLT, Nat.reduceEqDiff, Nat.zero_add, Nat.add_zero, Nat.le_refl, Nat.zero_le, true_and, and_true, true_or, or_true, false_or, or_false, reduceIte]
    exact H _ _ (Or.inl ⟨i, hi, rfl, rfl, g1, g2, g3⟩)
  · exact ⟨fun _ => H _ _ (Or.inr ⟨hno, rfl, rfl⟩), fun z => by first | exact absurd rfl z | exact absurd trivial z⟩
theorem sp_clear6 (hc : SKF c) (H : Q [.int (mI c 4 4 0)] (pm (emC c) N)) : K_X6_clear l D (d + 2) [.ref (ob 6 0)] (pm c N) Q := by
  refine m_X6_clear (lsA := [.ref (ob 6 0), jk]) rfl (Nat.le_of_ble_eq_true rfl) ?_
  intro X h0
  apply h0
  simp only [B_X6_clear_0, o_al, o_gf, o_is, o_il, o_iret, nth_0, lset_1, nth_1, opV_0, mV_6_6, al_6, hc.p6_6, hc.a6, ix_6, mV_4_4, al_4, cI_4, hc.a4, ix_4, cats_nil, cats_cons, rf_s, rf_n, isR_r, isR_n, isR_rf, cat_i, cat_l, cat_r, cat_n, cat_rf, unl_i, unl_l, unl_r, unl_n, unl_j, unl_rf, orf_r, orf_n, orf_rf, rf_null, mA_pm, mL_pm, mP_pm, List.length_cons, List.length_nil, List.cons_append, List.nil_append, Nat.reduceAdd, Nat.reduceLeDiff, Nat.reduceLT, Nat.reduceEqDiff, Nat.zero_add, Nat.add_zero, Nat.le_refl, Nat.zero_le, true_and, and_true, true_or, or_true, false_or, or_false, reduceIte, hc.a6, hc.a4, hc.p6_6]
  refine sp_empty hc ?_
  simp only [o_al, o_gf, o_is, o_il, o_iret, nth_0, lset_1, nth_1, opV_0, mV_6_6, al_6, hc.p6_6, hc.a6, ix_6, mV_4_4, al_4, cI_4, hc.a4, ix_4, cats_nil, cats_cons, rf_s, rf_n, isR_r, isR_n, isR_rf, cat_i, cat_l, cat_r, cat_n, cat_rf, unl_i, unl_l, unl_r, unl_n, unl_j, unl_rf, orf_r, orf_n, orf_rf, rf_null, mA_pm, mL_pm, mP_pm, List.length_cons, List.length_nil, List.cons_append, List.nil_append, Nat.reduceAdd, Nat.reduceLeDiff, Nat.reduceLT, Nat.reduceEqDiff, Nat.zero_add, Nat.add_zero, Nat.le_refl, Nat.zero_le, true_and, and_true, true_or, or_true, false_or, or_false, reduceIte]
  exact H
end ZC35b
