/-! The class: a plan's start, its asks, its least waits -/
def wL : Nat → Nat → Nat → Prop := fun k i j => j = 0 ∧ (k = 14 ∨ (k = 2 ∧ i = 13))
def stC (c : HP) (x : Int32) : HP := wI (wI (wI (wI c 2 8 0 x) 2 9 0 0) 2 10 0 0) 2 13 0 (-1)
def adC (c : HP) (n : Nat) (x y z : Int32) : HP := wI (wI (wI (wI c 8 n 0 x) 9 n 0 y) 10 n 0 z) 2 9 0 (nI (n + 1))
section ZC9
variable {l : Launch} {D : DD} {d : Nat} {c : HP} {M : MD} {Q : List Value → HP → Prop}
theorem sp_start (hc : SKF c) (x : Int32) (H : Q [] (pm (stC c x) M)) : K_X2_start l D (d + 1) [.ref (ob 2 0), .int x] (pm c M) Q := by
  refine m_X2_start (lsA := [.ref (ob 2 0), .int x]) rfl (Nat.le_of_ble_eq_true rfl) ?_
  intro X h0
  apply h0
  simp only [B_X2_start_0, o_al, o_il, o_pI, o_ic, o_vret, nth_0, nth_1, al_2, ix_2, cw_2, hc.a2, cats_nil, cats_cons, rf_s, rf_n, isR_r, isR_n, isR_rf, cat_i, cat_l, cat_r, cat_n, cat_rf, unl_i, unl_l, unl_r, unl_n, unl_j, unl_rf, orf_r, orf_n, orf_rf, rf_null, mA_pm, mL_pm, mP_pm, List.length_cons, List.length_nil, List.cons_append, List.nil_append, Nat.reduceAdd, Nat.reduceLeDiff, Nat.reduceLT, Nat.reduceEqDiff, Nat.zero_add, Nat.add_zero, Nat.le_refl, Nat.zero_le, true_and, and_true, true_or, or_true, false_or, or_false, reduceIte, mA_wI]
  exact H
theorem sp_isFull (hc : SKF c) {n : Nat} (h : mI c 2 9 0 = nI n) (hn : n ≤ 8) (H : Q [.int (bi (¬ n < 8))] (pm c M)) : K_X2_isFull l D (d + 1) [.ref (ob 2 0)] (pm c M) Q := by
  refine m_X2_isFull (lsA := [.ref (ob 2 0)]) rfl (Nat.le_of_ble_eq_true rfl) ?_
  intro X h0 h13 h14
  apply h0
  simp only [B_X2_isFull_0, o_al, o_gf, o_ic, o_ic2, nth_0, mV_2_9, al_2, cI_2, hc.a2, ix_2, cats_nil, cats_cons, rf_s, rf_n, isR_r, isR_n, isR_rf, cat_i, cat_l, cat_r, cat_n, cat_rf, unl_i, unl_l, unl_r, unl_n, unl_j, unl_rf, orf_r, orf_n, orf_rf, rf_null, mA_pm, mL_pm, mP_pm, List.length_cons, List.length_nil, List.cons_append, List.nil_append, Nat.reduceAdd, Nat.reduceLeDiff, Nat.reduceLT, Nat.reduceEqDiff, Nat.zero_add, Nat.add_zero, Nat.le_refl, Nat.zero_le, true_and, and_true, true_or, or_true, false_or, or_false, reduceIte, h]
  have e : (nI n < (8 : Int32)) ↔ n < 8 := by rw [show (8 : Int32) = nI 8 from rfl, nI_lt_iff]
  refine ⟨fun q => ?_, fun q => ?_⟩
  · rw [bi_f (fun z => z (e.mp q))] at H
    apply h13
    simp only [B_X2_isFull_13, o_ic, cats_nil, cats_cons, rf_s, rf_n, isR_r, isR_n, isR_rf, cat_i, cat_l, cat_r, cat_n, cat_rf, unl_i, unl_l, unl_r, unl_n, unl_j, unl_rf, orf_r, orf_n, orf_rf, rf_null, mA_pm, mL_pm, mP_pm, List.length_cons, List.length_nil, List.cons_append, List.nil_append, Nat.reduceAdd, Nat.reduceLeDiff, Nat.reduceLT, Nat.reduceEqDiff, Nat.zero_add, Nat.add_zero, Nat.le_refl, Nat.zero_le, true_and, and_true, true_or, or_true, false_or, or_false, reduceIte]
    apply h14
    simp only [B_X2_isFull_14, o_zret, cats_nil, cats_cons, rf_s, rf_n, isR_r, isR_n, isR_rf, cat_i, cat_l, cat_r, cat_n, cat_rf, unl_i, unl_l, unl_r, unl_n, unl_j, unl_rf, orf_r, orf_n, orf_rf, rf_null, mA_pm, mL_pm, mP_pm, List.length_cons, List.length_nil, List.cons_append, List.nil_append, Nat.reduceAdd, Nat.reduceLeDiff, Nat.reduceLT, Nat.reduceEqDiff, Nat.zero_add, Nat.add_zero, Nat.le_refl, Nat.zero_le, true_and, and_true, true_or, or_true, false_or, or_false, reduceIte]
    exact H
  · rw [bi_t (show ¬ n < 8 from fun z => q (e.mpr z))] at H
    apply h14
    simp only [B_X2_isFull_14, o_zret, cats_nil, cats_cons, rf_s, rf_n, isR_r, isR_n, isR_rf, cat_i, cat_l, cat_r, cat_n, cat_rf, unl_i, unl_l, unl_r, unl_n, unl_j, unl_rf, orf_r, orf_n, orf_rf, rf_null, mA_pm, mL_pm, mP_pm, List.length_cons, List.length_nil, List.cons_append, List.nil_append, Nat.reduceAdd, Nat.reduceLeDiff, Nat.reduceLT, Nat.reduceEqDiff, Nat.zero_add, Nat.add_zero, Nat.le_refl, Nat.zero_le, true_and, and_true, true_or, or_true, false_or, or_false, reduceIte]
    exact H
theorem sp_add (hc : SKF c) {n : Nat} (h : mI c 2 9 0 = nI n) (hn : n < 8) (x y z : Int32) (H : Q [] (pm (adC c n x y z) M)) : K_X2_add l D (d + 2) [.ref (ob 2 0), .int x, .int y, .int z] (pm c M) Q := by
  refine m_X2_add (lsA := [.ref (ob 2 0), .int x, .int y, .int z]) rfl (Nat.le_of_ble_eq_true rfl) ?_
  intro X h0
  apply h0
  simp only [B_X2_add_0, o_al, o_gf, o_il, o_dup, o_ic, o_ii, o_pI, o_vret, nth_0, nth_1, nth_2, nth_3, opS_3, mV_2_0, al_2, hc.p2_0, kd_8, ix_8, hc.l8, cI_8, cw_8, hc.a2, ix_2, mV_2_9, cI_2, mV_2_1, hc.p2_1, kd_9, ix_9, hc.l9, cI_9, cw_9, mV_2_2, hc.p2_2, kd_10, ix_10, hc.l10, cI_10, cw_10, cw_2, cats_nil, cats_cons, rf_s, rf_n, isR_r, isR_n, isR_rf, cat_i, cat_l, cat_r, cat_n, cat_rf, unl_i, unl_l, unl_r, unl_n, unl_j, unl_rf, orf_r, orf_n, orf_rf, rf_null, mA_pm, mL_pm, mP_pm, List.length_cons, List.length_nil, List.cons_append, List.nil_append, Nat.reduceAdd, Nat.reduceLeDiff, Nat.reduceLT, Nat.reduceEqDiff, Nat.zero_add, Nat.add_zero, Nat.le_refl, Nat.zero_le, true_and, and_true, true_or, or_true, false_or, or_false, reduceIte, h]
  refine sp_put (n := 8) (by decide) rfl hc.l8 (by omega) hn _ ?_
  simp only [o_al, o_gf, o_il, o_dup, o_ic, o_ii, o_pI, o_vret, nth_0, nth_1, nth_2, nth_3, opS_3, mV_2_0, al_2, hc.p2_0, kd_8, ix_8, hc.l8, cI_8, cw_8, hc.a2, ix_2, mV_2_9, cI_2, mV_2_1, hc.p2_1, kd_9, ix_9, hc.l9, cI_9, cw_9, mV_2_2, hc.p2_2, kd_10, ix_10, hc.l10, cI_10, cw_10, cw_2, cats_nil, cats_cons, rf_s, rf_n, isR_r, isR_n, isR_rf, cat_i, cat_l, cat_r, cat_n, cat_rf, unl_i, unl_l, unl_r, unl_n, unl_j, unl_rf, orf_r, orf_n, orf_rf, rf_null, mA_pm, mL_pm, mP_pm, List.length_cons, List.length_nil, List.cons_append, List.nil_append, Nat.reduceAdd, Nat.reduceLeDiff, Nat.reduceLT, Nat.reduceEqDiff, Nat.zero_add, Nat.add_zero, Nat.le_refl, Nat.zero_le, true_and, and_true, true_or, or_true, false_or, or_false, reduceIte, mA_wI, mP_wI, mI_wI, h, false_and]
  refine sp_put (n := 8) (by decide) rfl (by rw [mL_wI]; exact hc.l9) (by omega) hn _ ?_
  simp only [o_al, o_gf, o_il, o_dup, o_ic, o_ii, o_pI, o_vret, nth_0, nth_1, nth_2, nth_3, opS_3, mV_2_0, al_2, hc.p2_0, kd_8, ix_8, hc.l8, cI_8, cw_8, hc.a2, ix_2, mV_2_9, cI_2, mV_2_1, hc.p2_1, kd_9, ix_9, hc.l9, cI_9, cw_9, mV_2_2, hc.p2_2, kd_10, ix_10, hc.l10, cI_10, cw_10, cw_2, cats_nil, cats_cons, rf_s, rf_n, isR_r, isR_n, isR_rf, cat_i, cat_l, cat_r, cat_n, cat_rf, unl_i, unl_l, unl_r, unl_n, unl_j, unl_rf, orf_r, orf_n, orf_rf, rf_null, mA_pm, mL_pm, mP_pm, List.length_cons, List.length_nil, List.cons_append, List.nil_append, Nat.reduceAdd, Nat.reduceLeDiff, Nat.reduceLT, Nat.reduceEqDiff, Nat.zero_add, Nat.add_zero, Nat.le_refl, Nat.zero_le, true_and, and_true, true_or, or_true, false_or, or_false, reduceIte, mA_wI, mP_wI, mI_wI, h, false_and]
  refine sp_put (n := 8) (by decide) rfl (by rw [mL_wI, mL_wI]; exact hc.l10) (by omega) hn _ ?_
  simp only [o_al, o_gf, o_il, o_dup, o_ic, o_ii, o_pI, o_vret, nth_0, nth_1, nth_2, nth_3, opS_3, mV_2_0, al_2, hc.p2_0, kd_8, ix_8, hc.l8, cI_8, cw_8, hc.a2, ix_2, mV_2_9, cI_2, mV_2_1, hc.p2_1, kd_9, ix_9, hc.l9, cI_9, cw_9, mV_2_2, hc.p2_2, kd_10, ix_10, hc.l10, cI_10, cw_10, cw_2, cats_nil, cats_cons, rf_s, rf_n, isR_r, isR_n, isR_rf, cat_i, cat_l, cat_r, cat_n, cat_rf, unl_i, unl_l, unl_r, unl_n, unl_j, unl_rf, orf_r, orf_n, orf_rf, rf_null, mA_pm, mL_pm, mP_pm, List.length_cons, List.length_nil, List.cons_append, List.nil_append, Nat.reduceAdd, Nat.reduceLeDiff, Nat.reduceLT, Nat.reduceEqDiff, Nat.zero_add, Nat.add_zero, Nat.le_refl, Nat.zero_le, true_and, and_true, true_or, or_true, false_or, or_false, reduceIte, mA_wI, mP_wI, mI_wI, h, false_and, nI_1]
  exact H
theorem sp_leastWaits (hc : SKF c) {n hd m : Nat} {fr to : Nat → Nat} (hP : PD c n hd fr to) (hT : STm c n hd fr to m) (hR : RF c n hd fr to 24) (h13 : mI c 2 13 0 = -1 ∨ mI c 2 13 0 = nI (VS n fr to true n 0 hd 1).1) (H : ∀ c', FRI wL c c' → mI c' 2 13 0 = nI (VS n fr to true n 0 hd 1).1 → Q [.int (nI (VS n fr to true n 0 hd 1).1)] (pm c' M)) : K_X2_leastWaits l D (d + 4) [.ref (ob 2 0)] (pm c M) Q := by
  refine m_X2_leastWaits (lsA := [.ref (ob 2 0)]) rfl (Nat.le_of_ble_eq_true rfl) ?_
  intro X h0 h28
  have hn := hP.1
  have hft : ∀ i, i < n → fr i < 60 ∧ to i < 60 := fun i hi => by have := hP.2.2.2.2 i hi; omega
  have hV : (VS n fr to true n 0 hd 1).1 ≤ 8192 := by
    have := VS_lt (fr := fr) (to := to) (wt := true) hn hft n 0 hd 1 hn hP.2.1
    omega
  have k28 : ∀ c', FRI wL c c' → mI c' 2 13 0 = nI (VS n fr to true n 0 hd 1).1 → X 28 [.ref (ob 2 0)] [] (pm c' M) 0 0 := by
    intro c' hF e
    have hc1 := hF.sk hc
    apply h28
    simp only [B_X2_leastWaits_28, o_al, o_gf, o_iret, nth_0, mV_2_13, al_2, cI_2, hc.a2, ix_2, cats_nil, cats_cons, rf_s, rf_n, isR_r, isR_n, isR_rf, cat_i, cat_l, cat_r, cat_n, cat_rf, unl_i, unl_l, unl_r, unl_n, unl_j, unl_rf, orf_r, orf_n, orf_rf, rf_null, mA_pm, mL_pm, mP_pm, List.length_cons, List.length_nil, List.cons_append, List.nil_append, Nat.reduceAdd, Nat.reduceLeDiff, Nat.reduceLT, Nat.reduceEqDiff, Nat.zero_add, Nat.add_zero, Nat.le_refl, Nat.zero_le, true_and, and_true, true_or, or_true, false_or, or_false, reduceIte, hc1.a2, e]
    exact H c' hF e
  apply h0
  simp only [B_X2_leastWaits_0, o_al, o_gf, o_ic, o_ic2, o_iid, o_pI, nth_0, opV_1, opV_3, mV_2_13, al_2, cI_2, hc.a2, ix_2, cw_2, cats_nil, cats_cons, rf_s, rf_n, isR_r, isR_n, isR_rf, cat_i, cat_l, cat_r, cat_n, cat_rf, unl_i, unl_l, unl_r, unl_n, unl_j, unl_rf, orf_r, orf_n, orf_rf, rf_null, mA_pm, mL_pm, mP_pm, List.length_cons, List.length_nil, List.cons_append, List.nil_append, Nat.reduceAdd, Nat.reduceLeDiff, Nat.reduceLT, Nat.reduceEqDiff, Nat.zero_add, Nat.add_zero, Nat.le_refl, Nat.zero_le, true_and, and_true, true_or, or_true, false_or, or_false, reduceIte]
  refine ⟨fun q => ?_, fun q => ?_⟩
  · refine sp_solve hc hP hT true (fun c1 f1 f2 => ?_)
    have hc1 := f1.sk hc
    simp only [o_al, o_gf, o_ic, o_ic2, o_iid, o_pI, nth_0, opV_1, opV_3, mV_2_13, al_2, cI_2, hc.a2, ix_2, cw_2, cats_nil, cats_cons, rf_s, rf_n, isR_r, isR_n, isR_rf, cat_i, cat_l, cat_r, cat_n, cat_rf, unl_i, unl_l, unl_r, unl_n, unl_j, unl_rf, orf_r, orf_n, orf_rf, rf_null, mA_pm, mL_pm, mP_pm, List.length_cons, List.length_nil, List.cons_append, List.nil_append, Nat.reduceAdd, Nat.reduceLeDiff, Nat.reduceLT, Nat.reduceEqDiff, Nat.zero_add, Nat.add_zero, Nat.le_refl, Nat.zero_le, true_and, and_true, true_or, or_true, false_or, or_false, reduceIte, hc1.a2]
    have hnw : ∀ k i j, wS14 k i j → k = 14 := fun k i j w => w.1
    refine sp_best hc1 (hP.fr f1 (fun k i j w => by have := w.1; omega)) true (s := 24) (u := 0) (Or.inl rfl) (hR.fr f1 (fun i => ⟨fun w => by have := w.1; omega, fun w => by have := w.1; omega⟩)) (Nat.two_pow_pos n) (fun i hi hb => f2 _ (by have := Nat.two_pow_pos i; omega) (bit_lt (Nat.two_pow_pos n) hi hb)) (fun x hx => ?_)
    have hxb : x < 2 ^ 31 ∧ x / 8 = (VS n fr to true n 0 hd 1).1 := by
      rw [lft_all n] at hx
      rcases hx with ⟨x1, x2⟩ | ⟨k, y, x1, x2, x3, x4, x5⟩
      · rw [x1, x2]
        exact ⟨by omega, rfl⟩
      · refine ⟨by omega, ?_⟩
        have hpl : plS hd to 24 = hd := rfl
        have hwy : wyS 24 = 1 := rfl
        rw [hpl, hwy] at x2
        obtain rfl : n = k + 1 := x1
        rw [VS_s, x2]
        show x / 8 = y.1
        omega
    have e8 : nI x / (8 : Int32) = nI (x / 8) := pk_div (d := 8) hxb.1 (by omega) (by omega)
    simp only [o_al, o_gf, o_ic, o_ic2, o_iid, o_pI, nth_0, opV_1, opV_3, mV_2_13, al_2, cI_2, hc.a2, ix_2, cw_2, cats_nil, cats_cons, rf_s, rf_n, isR_r, isR_n, isR_rf, cat_i, cat_l, cat_r, cat_n, cat_rf, unl_i, unl_l, unl_r, unl_n, unl_j, unl_rf, orf_r, orf_n, orf_rf, rf_null, mA_pm, mL_pm, mP_pm, List.length_cons, List.length_nil, List.cons_append, List.nil_append, Nat.reduceAdd, Nat.reduceLeDiff, Nat.reduceLT, Nat.reduceEqDiff, Nat.zero_add, Nat.add_zero, Nat.le_refl, Nat.zero_le, true_and, and_true, true_or, or_true, false_or, or_false, reduceIte, e8, mA_wI, hc1.a2]
    refine ⟨by decide, ?_⟩
    refine k28 _ ((f1.mo (fun k i j w => ⟨w.2, Or.inl w.1⟩)).w _ ⟨rfl, by omega⟩) ?_
    rw [mI_wI, if_pos ⟨rfl, rfl, rfl⟩, hxb.2]
  · rcases h13 with z | z
    · exact absurd z q
    · exact k28 c (FRI.rf _ _) z
end ZC9
