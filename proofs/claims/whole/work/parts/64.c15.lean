/-! The class beside the model: asks, plans; a plan is made -/
def CA (c : HP) (M : MD) (nA : Nat) : Prop := ∀ k, k < nA → mI c 1 0 k = M.1 25 k ∧ mI c 1 1 k = M.1 26 k ∧ mI c 1 2 k = M.1 27 k ∧ mI c 1 3 k = M.1 28 k ∧ mI c 1 4 k = M.1 29 k ∧ mI c 1 5 k = fromF M k ∧ mI c 1 6 k = toF M k ∧ mI c 1 7 k = M.1 30 k ∧ mI c 1 8 k = M.1 31 k ∧ mJ c 1 9 k = M.2 92 k
def wPl : Nat → Nat → Nat → Prop := fun k i j => j = 0 ∧ (k = 2 ∨ (8 ≤ k ∧ k ≤ 15) ∨ (k = 6 ∧ i = 13))
def PLN (c : HP) (M : MD) (t nA : Nat) : Prop := PD c (gl M t nA).length (hdN M t) (fun i => frN M (oL M t nA i)) (fun i => toN M (oL M t nA i)) ∧ (∃ m, STm c (gl M t nA).length (hdN M t) (fun i => frN M (oL M t nA i)) (fun i => toN M (oL M t nA i)) m) ∧ RF c (gl M t nA).length (hdN M t) (fun i => frN M (oL M t nA i)) (fun i => toN M (oL M t nA i)) 24 ∧ (∀ i, i < (gl M t nA).length → mI c 15 i 0 = nI (oS M t nA i)) ∧ mI c 2 11 0 = nI (oV M t nA false).1 ∧ mI c 2 12 0 = nI (oW M t nA) ∧ (mI c 2 13 0 = -1 ∨ mI c 2 13 0 = nI (oV M t nA true).1)
/-- the plan while its asks are gathered -/
def PGt (c : HP) (M : MD) (t : Nat) (L : List Nat) : Prop := mI c 2 8 0 = nI (hdN M t) ∧ mI c 2 9 0 = nI L.length ∧ mI c 2 10 0 = 0 ∧ mI c 2 13 0 = -1 ∧ ∀ i, i < L.length → mI c 8 i 0 = nI (L.getD i 0) ∧ mI c 9 i 0 = nI (frN M (L.getD i 0)) ∧ mI c 10 i 0 = nI (toN M (L.getD i 0))
theorem FRI_ad {c c1 : HP} (h : FRI wPl c c1) (n : Nat) (x y z : Int32) : FRI wPl c (adC c1 n x y z) := (((h.w _ ⟨rfl, by omega⟩).w _ ⟨rfl, by omega⟩).w _ ⟨rfl, by omega⟩).w _ ⟨rfl, by omega⟩
theorem ad_I (c : HP) (n : Nat) (x y z : Int32) (k i : Nat) : mI (adC c n x y z) k i 0 = if k = 2 ∧ i = 9 then nI (n + 1) else if k = 10 ∧ i = n then z else if k = 9 ∧ i = n then y else if k = 8 ∧ i = n then x else mI c k i 0 := by
  unfold adC
  rw [mI_wI, mI_wI, mI_wI, mI_wI]
  simp only [and_true]
theorem PGt_ad {c : HP} {M : MD} {t : Nat} {L : List Nat} (h : PGt c M t L) (i : Nat) : PGt (adC c L.length (nI i) (nI (frN M i)) (nI (toN M i))) M t (L ++ [i]) := by
  obtain ⟨p1, p2, p3, p4, p5⟩ := h
  refine ⟨?_, ?_, ?_, ?_, fun k hk => ?_⟩
  · rw [ad_I, if_neg (by omega), if_neg (by omega), if_neg (by omega), if_neg (by omega)]
    exact p1
  · rw [ad_I, if_pos ⟨rfl, rfl⟩, List.length_append]
    rfl
  · rw [ad_I, if_neg (by omega), if_neg (by omega), if_neg (by omega), if_neg (by omega)]
    exact p3
  · rw [ad_I, if_neg (by omega), if_neg (by omega), if_neg (by omega), if_neg (by omega)]
    exact p4
  · rw [ad_I, ad_I, ad_I]
    by_cases e : k = L.length
    · have e2 : (L ++ [i]).getD k 0 = i := by
        rw [e, List.getD_eq_getElem?_getD, List.getElem?_append_right (Nat.le_refl _), Nat.sub_self]
        rfl
      rw [e2, if_neg (by omega), if_neg (by omega), if_neg (by omega), if_pos ⟨rfl, e⟩, if_neg (by omega), if_neg (by omega), if_pos ⟨rfl, e⟩, if_neg (by omega), if_pos ⟨rfl, e⟩]
      exact ⟨rfl, rfl, rfl⟩
    · have hk2 : k < L.length := by
        rw [List.length_append] at hk
        have : [i].length = 1 := rfl
        omega
      have e2 : (L ++ [i]).getD k 0 = L.getD k 0 := by rw [List.getD_eq_getElem?_getD, List.getElem?_append_left hk2, ← List.getD_eq_getElem?_getD]
      rw [e2, if_neg (by omega), if_neg (by omega), if_neg (by omega), if_neg (by omega), if_neg (by omega), if_neg (by omega), if_neg (by omega), if_neg (by omega), if_neg (by omega), if_neg (by omega), if_neg (by omega), if_neg (by omega)]
      exact p5 k hk2
section ZC15
variable {l : Launch} {D : DD} {d : Nat} {c : HP} {M N : MD} {Q : List Value → HP → Prop}
set_option maxHeartbeats 1000000 in
theorem mp_108 (hc : SKF c) {nT nA t : Nat} (ht : t < nT) (hT2 : nT ≤ 12) (hG : GA M nT nA) (hH : GH M nT) (H : ∀ c', FRI wPl c c' → PLN c' M t nA → mI c' 6 13 0 = nI t → Q [.int 1] (pm c' N)) {X : Nat → KT} (h108 : ∀ ls st h n1 n2, B_X6_makePlan_108 l D (d + 4) Q X ls st h n1 n2 → X 108 ls st h n1 n2) : ∀ c1 w2 w3 w4, FRI wPl c c1 → PGt c1 M t (gl M t nA) → X 108 [.ref (ob 6 0), .int (nI t), w2, w3, w4] [] (pm c1 N) 0 0 := by
  obtain ⟨hhd1, hhd2⟩ := hH t ht
  intro c1 w2 w3 w4 hF hP
  have hc1 := hF.sk hc
  obtain ⟨p1, p2, p3, p4, p5⟩ := hP
  have hlen := gl_len M t nA
  have hPD : PD c1 (gl M t nA).length (hdN M t) (fun i => frN M (oL M t nA i)) (fun i => toN M (oL M t nA i)) := by
    refine ⟨hlen, hhd2, p2, p1, fun i hi => ?_⟩
    obtain ⟨g1, g2, g3⟩ := p5 i hi
    obtain ⟨m1, m2, m3⟩ := oL_mem hi
    obtain ⟨t', p, b1, b2, b3, b4, b5, b6, b7, b8⟩ := hG _ m1
    exact ⟨g2, g3, b5, by show toN M _ < 60; omega⟩
  apply h108
  simp only [B_X6_makePlan_108, o_al, o_gf, o_ic, o_il, o_pI, o_zret, nth_0, nth_1, opV_0, opV_1, mV_6_5, al_6, hc.p6_5, hc.a6, ix_6, al_2, ix_2, hc.a2, cw_6, cats_nil, cats_cons, rf_s, rf_n, isR_r, isR_n, isR_rf, cat_i, cat_l, cat_r, cat_n, cat_rf, unl_i, unl_l, unl_r, unl_n, unl_j, unl_rf, orf_r, orf_n, orf_rf, rf_null, mA_pm, mL_pm, mP_pm, List.length_cons, List.length_nil, List.cons_append, List.nil_append, Nat.reduceAdd, Nat.reduceLeDiff, Nat.reduceLT, Nat.reduceEqDiff, Nat.zero_add, Nat.add_zero, Nat.le_refl, Nat.zero_le, true_and, and_true, true_or, or_true, false_or, or_false, reduceIte, hc1.a6, hc1.a2, hc1.p6_5]
  refine sp_tabulate hc1 hPD p3 (fun c2 m f1 f2 f3 => ?_)
  have hF2 : FRI wPl c c2 := hF.tr (f1.mo (fun k i j w => ⟨w.1, by have := w.2; omega⟩))
  have hc2 := hF2.sk hc
  have hPD2 := hPD.fr f1 (fun k i j w => by have := w.2; omega)
  simp only [o_al, o_gf, o_ic, o_il, o_pI, o_zret, nth_0, nth_1, opV_0, opV_1, mV_6_5, al_6, hc.p6_5, hc.a6, ix_6, al_2, ix_2, hc.a2, cw_6, cats_nil, cats_cons, rf_s, rf_n, isR_r, isR_n, isR_rf, cat_i, cat_l, cat_r, cat_n, cat_rf, unl_i, unl_l, unl_r, unl_n, unl_j, unl_rf, orf_r, orf_n, orf_rf, rf_null, mA_pm, mL_pm, mP_pm, List.length_cons, List.length_nil, List.cons_append, List.nil_append, Nat.reduceAdd, Nat.reduceLeDiff, Nat.reduceLT, Nat.reduceEqDiff, Nat.zero_add, Nat.add_zero, Nat.le_refl, Nat.zero_le, true_and, and_true, true_or, or_true, false_or, or_false, reduceIte, hc2.a6, hc2.a2, hc2.p6_5]
  refine sp_solve hc2 hPD2 f2 false (fun c3 g1 g2 => ?_)
  have hF3 : FRI wPl c c3 := hF2.tr (g1.mo (fun k i j w => ⟨w.2, by have := w.1; omega⟩))
  have hc3 := hF3.sk hc
  have hPD3 := hPD2.fr g1 (fun k i j w => by have := w.1; omega)
  have hST3 := f2.fr g1 (fun i => ⟨fun w => by have := w.1; omega, fun w => by have := w.1; omega, fun w => by have := w.1; omega, fun w => by have := w.1; omega⟩)
  have hRF3 := f3.fr g1 (fun i => ⟨fun w => by have := w.1; omega, fun w => by have := w.1; omega⟩)
  simp only [o_al, o_gf, o_ic, o_il, o_pI, o_zret, nth_0, nth_1, opV_0, opV_1, mV_6_5, al_6, hc.p6_5, hc.a6, ix_6, al_2, ix_2, hc.a2, cw_6, cats_nil, cats_cons, rf_s, rf_n, isR_r, isR_n, isR_rf, cat_i, cat_l, cat_r, cat_n, cat_rf, unl_i, unl_l, unl_r, unl_n, unl_j, unl_rf, orf_r, orf_n, orf_rf, rf_null, mA_pm, mL_pm, mP_pm, List.length_cons, List.length_nil, List.cons_append, List.nil_append, Nat.reduceAdd, Nat.reduceLeDiff, Nat.reduceLT, Nat.reduceEqDiff, Nat.zero_add, Nat.add_zero, Nat.le_refl, Nat.zero_le, true_and, and_true, true_or, or_true, false_or, or_false, reduceIte, hc3.a6, hc3.a2, hc3.p6_5]
  refine sp_choose hc3 hPD3 hST3 hRF3 (fun u hu hu2 => g2 u hu hu2) (fun c4 e1 e2 e3 e4 => ?_)
  have hF4 : FRI wPl c c4 := hF3.tr (e1.mo (fun k i j w => ⟨w.1, by have := w.2; omega⟩))
  have hc4 := hF4.sk hc
  have hPD4 := hPD3.fr e1 (fun k i j w => by have := w.2; omega)
  have hST4 := hST3.fr e1 (fun i => ⟨fun w => by have := w.2; omega, fun w => by have := w.2; omega, fun w => by have := w.2; omega, fun w => by have := w.2; omega⟩)
  have hRF4 := hRF3.fr e1 (fun i => ⟨fun w => by have := w.2; omega, fun w => by have := w.2; omega⟩)
  simp only [o_al, o_gf, o_ic, o_il, o_pI, o_zret, nth_0, nth_1, opV_0, opV_1, mV_6_5, al_6, hc.p6_5, hc.a6, ix_6, al_2, ix_2, hc.a2, cw_6, cats_nil, cats_cons, rf_s, rf_n, isR_r, isR_n, isR_rf, cat_i, cat_l, cat_r, cat_n, cat_rf, unl_i, unl_l, unl_r, unl_n, unl_j, unl_rf, orf_r, orf_n, orf_rf, rf_null, mA_pm, mL_pm, mP_pm, List.length_cons, List.length_nil, List.cons_append, List.nil_append, Nat.reduceAdd, Nat.reduceLeDiff, Nat.reduceLT, Nat.reduceEqDiff, Nat.zero_add, Nat.add_zero, Nat.le_refl, Nat.zero_le, true_and, and_true, true_or, or_true, false_or, or_false, reduceIte, hc4.a6]
  have hw : FRI (fun k i j => k = 6 ∧ i = 13 ∧ j = 0) c4 (wI c4 6 13 0 (nI t)) := (FRI.rf _ _).w _ ⟨rfl, rfl, rfl⟩
  refine H _ (hF4.w _ ⟨rfl, by omega⟩) ⟨?_, ⟨m, ?_⟩, ?_, fun i hi => ?_, ?_, ?_, ?_⟩ (by rw [mI_wI, if_pos ⟨rfl, rfl, rfl⟩])
  · exact hPD4.fr hw (fun k i j w => by omega)
  · exact hST4.fr hw (fun i => ⟨fun w => by omega, fun w => by omega, fun w => by omega, fun w => by omega⟩)
  · exact hRF4.fr hw (fun i => ⟨fun w => by omega, fun w => by omega⟩)
  · rw [mI_wI, if_neg (by omega), e2 i hi]
    have hO := oV_len (M := M) (t := t) (nA := nA) (wt := false)
    have hil : i < (oV M t nA false).2.length := by rw [hO.1]; exact hi
    have hlt : (oV M t nA false).2.getD i 0 < (gl M t nA).length := by
      refine hO.2 _ ?_
      rw [List.getD_eq_getElem?_getD, List.getElem?_eq_getElem hil]
      exact List.getElem_mem hil
    have q1 := (p5 _ hlt).1
    rw [g1.I (fun w => by have := w.1; omega), f1.I (fun w => by have := w.2; omega)]
    exact q1
  · rw [mI_wI, if_neg (by omega)]
    exact e3
  · rw [mI_wI, if_neg (by omega)]
    exact e4
  · left
    rw [mI_wI, if_neg (by omega), e1.I (fun w => by have := w.2; omega), g1.I (fun w => by have := w.1; omega), f1.I (fun w => by have := w.2; omega)]
    exact p4
set_option maxHeartbeats 1000000 in
theorem mp_35 (hc : SKF c) {nT nR nA t : Nat} (hd : SKD c nT nR nA) (ht : t < nT) (hT2 : nT ≤ 12) (hA2 : nA ≤ 150) (hA : CA c M nA) (hG : GA M nT nA) {X : Nat → KT} (h35 : ∀ ls st h n1 n2, B_X6_makePlan_35 l D (d + 4) Q X ls st h n1 n2 → X 35 ls st h n1 n2) (h102 : ∀ ls st h n1 n2, B_X6_makePlan_102 l D (d + 4) Q X ls st h n1 n2 → X 102 ls st h n1 n2) (k108 : ∀ c1 w2 w3 w4, FRI wPl c c1 → PGt c1 M t (gl M t nA) → X 108 [.ref (ob 6 0), .int (nI t), w2, w3, w4] [] (pm c1 N) 0 0) : ∀ m i c1 w4, i + m = 150 → FRI wPl c c1 → PGt c1 M t (gl M t (min i nA)) → X 35 [.ref (ob 6 0), .int (nI t), .ref (ob 5 t), .int (nI i), w4] [] (pm c1 N) 0 0 := by
  intro m
  induction m with
  | zero =>
    intro i c1 w4 hi hF hP
    obtain rfl : i = 150 := by omega
    have hc1 := hF.sk hc
    rw [show min 150 nA = nA by omega] at hP
    apply h35
    simp only [B_X6_makePlan_35, o_il, o_al, o_gf, o_alen, o_ic2, o_if, o_aald, o_as, o_ifn, nth_3, nth_0, lset_4, nth_4, nth_1, opV_0, opV_3, mV_6_2, al_6, hc.p6_2, kd_98, ix_98, hc.l98, hc.a6, ix_6, mV_6_5, hc.p6_5, mV_1_1, al_1, cI_1, ix_1, mV_1_7, mV_1_5, mV_1_6, al_2, ix_2, hc.a2, cats_nil, cats_cons, rf_s, rf_n, isR_r, isR_n, isR_rf, cat_i, cat_l, cat_r, cat_n, cat_rf, unl_i, unl_l, unl_r, unl_n, unl_j, unl_rf, orf_r, orf_n, orf_rf, rf_null, mA_pm, mL_pm, mP_pm, List.length_cons, List.length_nil, List.cons_append, List.nil_append, Nat.reduceAdd, Nat.reduceLeDiff, Nat.reduceLT, Nat.reduceEqDiff, Nat.zero_add, Nat.add_zero, Nat.le_refl, Nat.zero_le, true_and, and_true, true_or, or_true, false_or, or_false, reduceIte, hc1.a6, hc1.p6_2, hc1.l98, ofN]
    exact ⟨fun _ => k108 c1 _ _ _ hF hP, fun z => absurd (by decide) z⟩
  | succ m ih =>
    intro i c1 w4 hi hF hP
    have hc1 := hF.sk hc
    have hi150 : i < 150 := by omega
    have k102 : ∀ c2 w4, FRI wPl c c2 → PGt c2 M t (gl M t (min (i + 1) nA)) → X 102 [.ref (ob 6 0), .int (nI t), .ref (ob 5 t), .int (nI i), w4] [] (pm c2 N) 0 0 := by
      intro c2 w4 f1 f2
      apply h102
      simp only [B_X6_makePlan_102, o_inc, nth_3, lset_3, cats_nil, cats_cons, rf_s, rf_n, isR_r, isR_n, isR_rf, cat_i, cat_l, cat_r, cat_n, cat_rf, unl_i, unl_l, unl_r, unl_n, unl_j, unl_rf, orf_r, orf_n, orf_rf, rf_null, mA_pm, mL_pm, mP_pm, List.length_cons, List.length_nil, List.cons_append, List.nil_append, Nat.reduceAdd, Nat.reduceLeDiff, Nat.reduceLT, Nat.reduceEqDiff, Nat.zero_add, Nat.add_zero, Nat.le_refl, Nat.zero_le, true_and, and_true, true_or, or_true, false_or, or_false, reduceIte, nI_1]
      exact ih (i + 1) c2 w4 (by omega) f1 f2
    have hlen := gl_len M t (min i nA)
    apply h35
    simp only [B_X6_makePlan_35, o_il, o_al, o_gf, o_alen, o_ic2, o_if, o_aald, o_as, o_ifn, nth_3, nth_0, lset_4, nth_4, nth_1, opV_0, opV_3, mV_6_2, al_6, hc.p6_2, kd_98, ix_98, hc.l98, hc.a6, ix_6, mV_6_5, hc.p6_5, mV_1_1, al_1, cI_1, ix_1, mV_1_7, mV_1_5, mV_1_6, al_2, ix_2, hc.a2, cats_nil, cats_cons, rf_s, rf_n, isR_r, isR_n, isR_rf, cat_i, cat_l, cat_r, cat_n, cat_rf, unl_i, unl_l, unl_r, unl_n, unl_j, unl_rf, orf_r, orf_n, orf_rf, rf_null, mA_pm, mL_pm, mP_pm, List.length_cons, List.length_nil, List.cons_append, List.nil_append, Nat.reduceAdd, Nat.reduceLeDiff, Nat.reduceLT, Nat.reduceEqDiff, Nat.zero_add, Nat.add_zero, Nat.le_refl, Nat.zero_le, true_and, and_true, true_or, or_true, false_or, or_false, reduceIte, hc1.a6, hc1.a2, hc1.p6_2, hc1.p6_5, hc1.l98, ofN]
    refine ⟨fun z => absurd z (by rw [nI_le_iff]; omega), fun _ => ?_⟩
    refine sp_isFull hc1 hP.2.1 hlen ?_
    have g98 : mP c1 98 i 0 = if i < nA then some (ob 1 i) else none := by rw [hF.P]; exact hd.2.2.1 i hi150
    simp only [o_il, o_al, o_gf, o_alen, o_ic2, o_if, o_aald, o_as, o_ifn, nth_3, nth_0, lset_4, nth_4, nth_1, opV_0, opV_3, mV_6_2, al_6, hc.p6_2, kd_98, ix_98, hc.l98, hc.a6, ix_6, mV_6_5, hc.p6_5, mV_1_1, al_1, cI_1, ix_1, mV_1_7, mV_1_5, mV_1_6, al_2, ix_2, hc.a2, cats_nil, cats_cons, rf_s, rf_n, isR_r, isR_n, isR_rf, cat_i, cat_l, cat_r, cat_n, cat_rf, unl_i, unl_l, unl_r, unl_n, unl_j, unl_rf, orf_r, orf_n, orf_rf, rf_null, mA_pm, mL_pm, mP_pm, List.length_cons, List.length_nil, List.cons_append, List.nil_append, Nat.reduceAdd, Nat.reduceLeDiff, Nat.reduceLT, Nat.reduceEqDiff, Nat.zero_add, Nat.add_zero, Nat.le_refl, Nat.zero_le, true_and, and_true, true_or, or_true, false_or, or_false, reduceIte, hc1.a6, hc1.p6_2, hc1.l98, vin hi150, ncl hi150, g98]
    refine ⟨fun q => ?_, fun q => ?_⟩
    · have hnf : (gl M t (min i nA)).length < 8 := Decidable.not_not.mp (bi_e0 q)
      by_cases hn : i < nA
      · have ha1 : mA c1 1 i = true := by rw [hF.A]; exact hd.2.2.2.2.2 i hn
        obtain ⟨a0, a1, a2, a3, a4, a5, a6, a7, a8, a9⟩ := hA i hn
        have gI : ∀ f, mI c1 1 f i = mI c 1 f i := fun f => hF.I (fun w => by have := w.2; omega)
        obtain ⟨t', p, b1, b2, b3, b4, b5, b6, b7, b8⟩ := hG i hn
        rw [show min i nA = i by omega] at hP hnf
        rw [show min (i + 1) nA = i + 1 by omega] at k102
        have eg : gl M t (i + 1) = if (gl M t i).length < 8 ∧ M.1 26 i = nI t ∧ M.1 30 i = 0 then gl M t i ++ [i] else gl M t i := rfl
        simp only [o_il, o_al, o_gf, o_alen, o_ic2, o_if, o_aald, o_as, o_ifn, nth_3, nth_0, lset_4, nth_4, nth_1, opV_0, opV_3, mV_6_2, al_6, hc.p6_2, kd_98, ix_98, hc.l98, hc.a6, ix_6, mV_6_5, hc.p6_5, mV_1_1, al_1, cI_1, ix_1, mV_1_7, mV_1_5, mV_1_6, al_2, ix_2, hc.a2, cats_nil, cats_cons, rf_s, rf_n, isR_r, isR_n, isR_rf, cat_i, cat_l, cat_r, cat_n, cat_rf, unl_i, unl_l, unl_r, unl_n, unl_j, unl_rf, orf_r, orf_n, orf_rf, rf_null, mA_pm, mL_pm, mP_pm, List.length_cons, List.length_nil, List.cons_append, List.nil_append, Nat.reduceAdd, Nat.reduceLeDiff, Nat.reduceLT, Nat.reduceEqDiff, Nat.zero_add, Nat.add_zero, Nat.le_refl, Nat.zero_le, true_and, and_true, true_or, or_true, false_or, or_false, reduceIte, if_pos hn, rnn, false_imp_iff, not_false_eq_true, true_imp_iff, ha1, gI, a1, a7, a5, a6, b3, b4, hc1.a6, hc1.a2, hc1.p6_5]
        refine ⟨fun z => absurd z (by simp), fun _ => ⟨fun q1 => ⟨fun q2 => ?_, fun q2 => k102 c1 _ hF ?_⟩, fun q1 => k102 c1 _ hF ?_⟩⟩
        · refine sp_add hc1 hP.2.1 hnf _ _ _ ?_
          simp only [o_il, o_al, o_gf, o_alen, o_ic2, o_if, o_aald, o_as, o_ifn, nth_3, nth_0, lset_4, nth_4, nth_1, opV_0, opV_3, mV_6_2, al_6, hc.p6_2, kd_98, ix_98, hc.l98, hc.a6, ix_6, mV_6_5, hc.p6_5, mV_1_1, al_1, cI_1, ix_1, mV_1_7, mV_1_5, mV_1_6, al_2, ix_2, hc.a2, cats_nil, cats_cons, rf_s, rf_n, isR_r, isR_n, isR_rf, cat_i, cat_l, cat_r, cat_n, cat_rf, unl_i, unl_l, unl_r, unl_n, unl_j, unl_rf, orf_r, orf_n, orf_rf, rf_null, mA_pm, mL_pm, mP_pm, List.length_cons, List.length_nil, List.cons_append, List.nil_append, Nat.reduceAdd, Nat.reduceLeDiff, Nat.reduceLT, Nat.reduceEqDiff, Nat.zero_add, Nat.add_zero, Nat.le_refl, Nat.zero_le, true_and, and_true, true_or, or_true, false_or, or_false, reduceIte]
          refine k102 _ _ (FRI_ad hF _ _ _ _) ?_
          rw [eg, if_pos ⟨hnf, q1, q2⟩]
          exact PGt_ad hP i
        · rw [eg, if_neg (fun z => q2 z.2.2)]
          exact hP
        · rw [eg, if_neg (fun z => q1 z.2.1)]
          exact hP
      · simp only [o_il, o_al, o_gf, o_alen, o_ic2, o_if, o_aald, o_as, o_ifn, nth_3, nth_0, lset_4, nth_4, nth_1, opV_0, opV_3, mV_6_2, al_6, hc.p6_2, kd_98, ix_98, hc.l98, hc.a6, ix_6, mV_6_5, hc.p6_5, mV_1_1, al_1, cI_1, ix_1, mV_1_7, mV_1_5, mV_1_6, al_2, ix_2, hc.a2, cats_nil, cats_cons, rf_s, rf_n, isR_r, isR_n, isR_rf, cat_i, cat_l, cat_r, cat_n, cat_rf, unl_i, unl_l, unl_r, unl_n, unl_j, unl_rf, orf_r, orf_n, orf_rf, rf_null, mA_pm, mL_pm, mP_pm, List.length_cons, List.length_nil, List.cons_append, List.nil_append, Nat.reduceAdd, Nat.reduceLeDiff, Nat.reduceLT, Nat.reduceEqDiff, Nat.zero_add, Nat.add_zero, Nat.le_refl, Nat.zero_le, true_and, and_true, true_or, or_true, false_or, or_false, reduceIte, if_neg hn]
        refine ⟨fun _ => k102 c1 _ hF ?_, fun z => by first | exact absurd rfl z | exact absurd trivial z⟩
        rw [show min (i + 1) nA = min i nA by omega]
        exact hP
    · have hnf : ¬ (gl M t (min i nA)).length < 8 := bi_ne0 q
      have eg : gl M t nA = gl M t (min i nA) := by
        have := gl_full (m := nA - min i nA) hnf
        rw [show min i nA + (nA - min i nA) = nA by omega] at this
        exact this
      rw [← eg] at hP
      exact k108 c1 _ _ _ hF hP
set_option maxHeartbeats 1000000 in
theorem sp_makePlan (hc : SKF c) {nT nR nA : Nat} (hd : SKD c nT nR nA) (hT2 : nT ≤ 12) (hA2 : nA ≤ 150) (hA : CA c M nA) (hh : ∀ t, t < nT → mI c 5 4 t = M.1 23 t) (hG : GA M nT nA) (hH : GH M nT) (hpl : ∀ t, t < nT → mI c 6 13 0 = nI t → PLN c M t nA) (x : Int32) (H : ∀ t c', t < nT → x = nI t → FRI wPl c c' → PLN c' M t nA → mI c' 6 13 0 = nI t → Q [.int 1] (pm c' N)) (H0 : (∀ t, t < nT → ¬ x = nI t) → Q [.int 0] (pm c N)) : K_X6_makePlan l D (d + 5) [.ref (ob 6 0), .int x] (pm c N) Q := by
  refine m_X6_makePlan (lsA := [.ref (ob 6 0), .int x, jk, jk, jk]) rfl (Nat.le_of_ble_eq_true rfl) ?_
  intro X h0 h12 h22 h35 h102 h108
  apply h0
  simp only [B_X6_makePlan_0, o_al, o_il, o_as, o_ifn, o_ic, o_zret, nth_0, nth_1, lset_2, nth_2, opV_1, al_6, ix_6, hc.a6, cats_nil, cats_cons, rf_s, rf_n, isR_r, isR_n, isR_rf, cat_i, cat_l, cat_r, cat_n, cat_rf, unl_i, unl_l, unl_r, unl_n, unl_j, unl_rf, orf_r, orf_n, orf_rf, rf_null, mA_pm, mL_pm, mP_pm, List.length_cons, List.length_nil, List.cons_append, List.nil_append, Nat.reduceAdd, Nat.reduceLeDiff, Nat.reduceLT, Nat.reduceEqDiff, Nat.zero_add, Nat.add_zero, Nat.le_refl, Nat.zero_le, true_and, and_true, true_or, or_true, false_or, or_false, reduceIte]
  refine sp_tapeAt hc hd hT2 x (fun r hr => ?_)
  rcases hr with ⟨t, ht, rfl, rfl⟩ | ⟨hn, rfl⟩
  rotate_left
  · simp only [o_al, o_il, o_as, o_ifn, o_ic, o_zret, nth_0, nth_1, lset_2, nth_2, opV_1, al_6, ix_6, hc.a6, cats_nil, cats_cons, rf_s, rf_n, isR_r, isR_n, isR_rf, cat_i, cat_l, cat_r, cat_n, cat_rf, unl_i, unl_l, unl_r, unl_n, unl_j, unl_rf, orf_r, orf_n, orf_rf, rf_null, mA_pm, mL_pm, mP_pm, List.length_cons, List.length_nil, List.cons_append, List.nil_append, Nat.reduceAdd, Nat.reduceLeDiff, Nat.reduceLT, Nat.reduceEqDiff, Nat.zero_add, Nat.add_zero, Nat.le_refl, Nat.zero_le, true_and, and_true, true_or, or_true, false_or, or_false, reduceIte]
    exact ⟨fun _ => H0 hn, fun z => by first | exact absurd rfl z | exact absurd trivial z⟩
  · have hat := hd.2.2.2.1 t ht
    obtain ⟨hhd1, hhd2⟩ := hH t ht
    have k108 := mp_108 (c := c) (M := M) (Q := Q) (l := l) (D := D) (d := d) hc ht hT2 hG hH (fun c' q1 q2 q3 => H t c' ht rfl q1 q2 q3) h108
    have loop := mp_35 (c := c) (M := M) (Q := Q) (l := l) (D := D) (d := d) hc hd ht hT2 hA2 hA hG h35 h102 k108
    simp only [o_al, o_il, o_as, o_ifn, o_ic, o_zret, nth_0, nth_1, lset_2, nth_2, opV_1, al_6, ix_6, hc.a6, cats_nil, cats_cons, rf_s, rf_n, isR_r, isR_n, isR_rf, cat_i, cat_l, cat_r, cat_n, cat_rf, unl_i, unl_l, unl_r, unl_n, unl_j, unl_rf, orf_r, orf_n, orf_rf, rf_null, mA_pm, mL_pm, mP_pm, List.length_cons, List.length_nil, List.cons_append, List.nil_append, Nat.reduceAdd, Nat.reduceLeDiff, Nat.reduceLT, Nat.reduceEqDiff, Nat.zero_add, Nat.add_zero, Nat.le_refl, Nat.zero_le, true_and, and_true, true_or, or_true, false_or, or_false, reduceIte, rnn, false_imp_iff, not_false_eq_true, true_imp_iff]
    apply h12
    simp only [B_X6_makePlan_12, o_al, o_gf, o_il, o_ic2, o_ic, o_zret, nth_0, nth_1, mV_6_13, al_6, cI_6, hc.a6, ix_6, cats_nil, cats_cons, rf_s, rf_n, isR_r, isR_n, isR_rf, cat_i, cat_l, cat_r, cat_n, cat_rf, unl_i, unl_l, unl_r, unl_n, unl_j, unl_rf, orf_r, orf_n, orf_rf, rf_null, mA_pm, mL_pm, mP_pm, List.length_cons, List.length_nil, List.cons_append, List.nil_append, Nat.reduceAdd, Nat.reduceLeDiff, Nat.reduceLT, Nat.reduceEqDiff, Nat.zero_add, Nat.add_zero, Nat.le_refl, Nat.zero_le, true_and, and_true, true_or, or_true, false_or, or_false, reduceIte]
    refine ⟨fun q => H t c ht rfl (FRI.rf _ _) (hpl t ht q) q, fun q => ?_⟩
    apply h22
    simp only [B_X6_makePlan_22, o_al, o_gf, o_ic, o_is, nth_0, nth_2, lset_3, opV_1, mV_6_5, al_6, hc.p6_5, hc.a6, ix_6, mV_5_4, al_5, cI_5, ix_5, al_2, ix_2, hc.a2, cats_nil, cats_cons, rf_s, rf_n, isR_r, isR_n, isR_rf, cat_i, cat_l, cat_r, cat_n, cat_rf, unl_i, unl_l, unl_r, unl_n, unl_j, unl_rf, orf_r, orf_n, orf_rf, rf_null, mA_pm, mL_pm, mP_pm, List.length_cons, List.length_nil, List.cons_append, List.nil_append, Nat.reduceAdd, Nat.reduceLeDiff, Nat.reduceLT, Nat.reduceEqDiff, Nat.zero_add, Nat.add_zero, Nat.le_refl, Nat.zero_le, true_and, and_true, true_or, or_true, false_or, or_false, reduceIte, hat, hh t ht, hhd1]
    refine sp_start hc _ ?_
    simp only [o_al, o_gf, o_ic, o_is, nth_0, nth_2, lset_3, opV_1, mV_6_5, al_6, hc.p6_5, hc.a6, ix_6, mV_5_4, al_5, cI_5, ix_5, al_2, ix_2, hc.a2, cats_nil, cats_cons, rf_s, rf_n, isR_r, isR_n, isR_rf, cat_i, cat_l, cat_r, cat_n, cat_rf, unl_i, unl_l, unl_r, unl_n, unl_j, unl_rf, orf_r, orf_n, orf_rf, rf_null, mA_pm, mL_pm, mP_pm, List.length_cons, List.length_nil, List.cons_append, List.nil_append, Nat.reduceAdd, Nat.reduceLeDiff, Nat.reduceLT, Nat.reduceEqDiff, Nat.zero_add, Nat.add_zero, Nat.le_refl, Nat.zero_le, true_and, and_true, true_or, or_true, false_or, or_false, reduceIte]
    refine loop 150 0 _ _ (by omega) (((((FRI.rf wPl c).w _ ⟨rfl, by omega⟩).w _ ⟨rfl, by omega⟩).w _ ⟨rfl, by omega⟩).w _ ⟨rfl, by omega⟩) ?_
    unfold stC
    rw [show min 0 nA = 0 by omega]
    refine ⟨?_, ?_, ?_, ?_, fun k hk => by simp [gl] at hk⟩ <;> simp only [mI_wI, Nat.reduceEqDiff, false_and, and_false, true_and, and_true, reduceIte]
    rfl
end ZC15
