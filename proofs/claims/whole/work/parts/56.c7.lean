/-! The class: a plan is tabulated -/
def wT : Nat → Nat → Nat → Prop := fun k i j => j = 0 ∧ (k = 11 ∨ k = 12 ∨ k = 13 ∨ (k = 2 ∧ i = 10))
/-- the rows as far as state q -/
def TBq (c : HP) (n hd : Nat) (fr to : Nat → Nat) (q m : Nat) : Prop := m ≤ q ∧ mI c 2 10 0 = nI m ∧ RF c n hd fr to 24 ∧ (∀ k, k < m → ∃ s, s < q ∧ s < 24 ∧ okS n hd fr to s ∧ mI c 13 k 0 = nI s ∧ RF c n hd fr to s) ∧ ∀ s, s < q → s < 24 → okS n hd fr to s → ∃ k, k < m ∧ mI c 13 k 0 = nI s
theorem RF.ne {c c1 : HP} {n hd : Nat} {fr to : Nat → Nat} {s s' : Nat} (hn : n ≤ 8) (h : RF c n hd fr to s) (g : FRI (wF s') c c1) (q : s ≠ s') : RF c1 n hd fr to s := fun i hi => by
  have e : ∀ k, ¬ wF s' k (s * 8 + i) 0 := fun k z => by
    obtain ⟨-, -, z1, z2⟩ := z
    omega
  rw [g.I (e _), g.I (e _)]
  exact h i hi
section ZC7
variable {l : Launch} {D : DD} {d : Nat} {c : HP} {M : MD} {Q : List Value → HP → Prop}
theorem sp_canLeave (hc : SKF c) {n hd : Nat} {fr to : Nat → Nat} (hP : PD c n hd fr to) {i w : Nat} (hi : i < n) (hw : w < 3) (H : ∀ r : Int32, ((r = 1 ∧ clP hd fr to i w) ∨ (r = 0 ∧ ¬ clP hd fr to i w)) → Q [.int r] (pm c M)) : K_X2_canLeave l D (d + 2) [.ref (ob 2 0), .int (nI i), .int (nI w - 1)] (pm c M) Q := by
  refine m_X2_canLeave (lsA := [.ref (ob 2 0), .int (nI i), .int (nI w - 1)]) rfl (Nat.le_of_ble_eq_true rfl) ?_
  intro X h0 h44 h48 h49
  obtain ⟨hn, hhd, h29, h28, hA⟩ := hP
  obtain ⟨a1, a2, a3, a4⟩ := hA i hi
  have hi8 : i < 8 := by omega
  have hw1 : (nI w - 1 = (1 : Int32)) ↔ w = 2 := by
    have : w = 0 ∨ w = 1 ∨ w = 2 := by omega
    rcases this with rfl | rfl | rfl <;> decide
  have hw2 : (nI w - 1 = (-1 : Int32)) ↔ w = 0 := by
    have : w = 0 ∨ w = 1 ∨ w = 2 := by omega
    rcases this with rfl | rfl | rfl <;> decide
  have k44 : clP hd fr to i w → X 44 [.ref (ob 2 0), .int (nI i), .int (nI w - 1)] [] (pm c M) 0 0 := by
    intro q
    apply h44
    simp only [B_X2_canLeave_44, o_ic, cats_nil, cats_cons, rf_s, rf_n, isR_r, isR_n, isR_rf, cat_i, cat_l, cat_r, cat_n, cat_rf, unl_i, unl_l, unl_r, unl_n, unl_j, unl_rf, orf_r, orf_n, orf_rf, rf_null, mA_pm, mL_pm, mP_pm, List.length_cons, List.length_nil, List.cons_append, List.nil_append, Nat.reduceAdd, Nat.reduceLeDiff, Nat.reduceLT, Nat.reduceEqDiff, Nat.zero_add, Nat.add_zero, Nat.le_refl, Nat.zero_le, true_and, and_true, true_or, or_true, false_or, or_false, reduceIte]
    apply h49
    simp only [B_X2_canLeave_49, o_zret, cats_nil, cats_cons, rf_s, rf_n, isR_r, isR_n, isR_rf, cat_i, cat_l, cat_r, cat_n, cat_rf, unl_i, unl_l, unl_r, unl_n, unl_j, unl_rf, orf_r, orf_n, orf_rf, rf_null, mA_pm, mL_pm, mP_pm, List.length_cons, List.length_nil, List.cons_append, List.nil_append, Nat.reduceAdd, Nat.reduceLeDiff, Nat.reduceLT, Nat.reduceEqDiff, Nat.zero_add, Nat.add_zero, Nat.le_refl, Nat.zero_le, true_and, and_true, true_or, or_true, false_or, or_false, reduceIte]
    exact H 1 (Or.inl ⟨rfl, q⟩)
  have k48 : ¬ clP hd fr to i w → X 48 [.ref (ob 2 0), .int (nI i), .int (nI w - 1)] [] (pm c M) 0 0 := by
    intro q
    apply h48
    simp only [B_X2_canLeave_48, o_ic, cats_nil, cats_cons, rf_s, rf_n, isR_r, isR_n, isR_rf, cat_i, cat_l, cat_r, cat_n, cat_rf, unl_i, unl_l, unl_r, unl_n, unl_j, unl_rf, orf_r, orf_n, orf_rf, rf_null, mA_pm, mL_pm, mP_pm, List.length_cons, List.length_nil, List.cons_append, List.nil_append, Nat.reduceAdd, Nat.reduceLeDiff, Nat.reduceLT, Nat.reduceEqDiff, Nat.zero_add, Nat.add_zero, Nat.le_refl, Nat.zero_le, true_and, and_true, true_or, or_true, false_or, or_false, reduceIte]
    apply h49
    simp only [B_X2_canLeave_49, o_zret, cats_nil, cats_cons, rf_s, rf_n, isR_r, isR_n, isR_rf, cat_i, cat_l, cat_r, cat_n, cat_rf, unl_i, unl_l, unl_r, unl_n, unl_j, unl_rf, orf_r, orf_n, orf_rf, rf_null, mA_pm, mL_pm, mP_pm, List.length_cons, List.length_nil, List.cons_append, List.nil_append, Nat.reduceAdd, Nat.reduceLeDiff, Nat.reduceLT, Nat.reduceEqDiff, Nat.zero_add, Nat.add_zero, Nat.le_refl, Nat.zero_le, true_and, and_true, true_or, or_true, false_or, or_false, reduceIte]
    exact H 0 (Or.inr ⟨rfl, q⟩)
  apply h0
  simp only [B_X2_canLeave_0, o_il, o_ic, o_ic2, o_al, o_gf, nth_2, nth_0, nth_1, opS_2, mV_2_1, al_2, hc.p2_1, kd_9, ix_9, hc.l9, cI_9, cw_9, hc.a2, ix_2, mV_2_2, hc.p2_2, kd_10, ix_10, hc.l10, cI_10, cw_10, mV_2_8, cI_2, cats_nil, cats_cons, rf_s, rf_n, isR_r, isR_n, isR_rf, cat_i, cat_l, cat_r, cat_n, cat_rf, unl_i, unl_l, unl_r, unl_n, unl_j, unl_rf, orf_r, orf_n, orf_rf, rf_null, mA_pm, mL_pm, mP_pm, List.length_cons, List.length_nil, List.cons_append, List.nil_append, Nat.reduceAdd, Nat.reduceLeDiff, Nat.reduceLT, Nat.reduceEqDiff, Nat.zero_add, Nat.add_zero, Nat.le_refl, Nat.zero_le, true_and, and_true, true_or, or_true, false_or, or_false, reduceIte, hw1]
  refine ⟨fun q => k44 (Or.inl q), fun q1 => ?_⟩
  refine sp_at (n := 8) (by decide) rfl hc.l9 (by omega) hi8 ?_
  rw [a1]
  simp only [o_il, o_ic, o_ic2, o_al, o_gf, nth_2, nth_0, nth_1, opS_2, mV_2_1, al_2, hc.p2_1, kd_9, ix_9, hc.l9, cI_9, cw_9, hc.a2, ix_2, mV_2_2, hc.p2_2, kd_10, ix_10, hc.l10, cI_10, cw_10, mV_2_8, cI_2, cats_nil, cats_cons, rf_s, rf_n, isR_r, isR_n, isR_rf, cat_i, cat_l, cat_r, cat_n, cat_rf, unl_i, unl_l, unl_r, unl_n, unl_j, unl_rf, orf_r, orf_n, orf_rf, rf_null, mA_pm, mL_pm, mP_pm, List.length_cons, List.length_nil, List.cons_append, List.nil_append, Nat.reduceAdd, Nat.reduceLeDiff, Nat.reduceLT, Nat.reduceEqDiff, Nat.zero_add, Nat.add_zero, Nat.le_refl, Nat.zero_le, true_and, and_true, true_or, or_true, false_or, or_false, reduceIte]
  refine sp_at (n := 8) (by decide) rfl hc.l10 (by omega) hi8 ?_
  rw [a2]
  simp only [o_il, o_ic, o_ic2, o_al, o_gf, nth_2, nth_0, nth_1, opS_2, mV_2_1, al_2, hc.p2_1, kd_9, ix_9, hc.l9, cI_9, cw_9, hc.a2, ix_2, mV_2_2, hc.p2_2, kd_10, ix_10, hc.l10, cI_10, cw_10, mV_2_8, cI_2, cats_nil, cats_cons, rf_s, rf_n, isR_r, isR_n, isR_rf, cat_i, cat_l, cat_r, cat_n, cat_rf, unl_i, unl_l, unl_r, unl_n, unl_j, unl_rf, orf_r, orf_n, orf_rf, rf_null, mA_pm, mL_pm, mP_pm, List.length_cons, List.length_nil, List.cons_append, List.nil_append, Nat.reduceAdd, Nat.reduceLeDiff, Nat.reduceLT, Nat.reduceEqDiff, Nat.zero_add, Nat.add_zero, Nat.le_refl, Nat.zero_le, true_and, and_true, true_or, or_true, false_or, or_false, reduceIte, hw2, nI_eq_iff (show fr i < 2147483648 by omega) (show to i < 2147483648 by omega)]
  refine ⟨fun q2 => ⟨fun q3 => k44 (Or.inr ⟨q2, Or.inl q3⟩), fun q3 => ?_⟩, fun q2 => k48 (fun z => ?_)⟩
  · refine sp_at (n := 8) (by decide) rfl hc.l9 (by omega) hi8 ?_
    rw [a1]
    simp only [o_il, o_ic, o_ic2, o_al, o_gf, nth_2, nth_0, nth_1, opS_2, mV_2_1, al_2, hc.p2_1, kd_9, ix_9, hc.l9, cI_9, cw_9, hc.a2, ix_2, mV_2_2, hc.p2_2, kd_10, ix_10, hc.l10, cI_10, cw_10, mV_2_8, cI_2, cats_nil, cats_cons, rf_s, rf_n, isR_r, isR_n, isR_rf, cat_i, cat_l, cat_r, cat_n, cat_rf, unl_i, unl_l, unl_r, unl_n, unl_j, unl_rf, orf_r, orf_n, orf_rf, rf_null, mA_pm, mL_pm, mP_pm, List.length_cons, List.length_nil, List.cons_append, List.nil_append, Nat.reduceAdd, Nat.reduceLeDiff, Nat.reduceLT, Nat.reduceEqDiff, Nat.zero_add, Nat.add_zero, Nat.le_refl, Nat.zero_le, true_and, and_true, true_or, or_true, false_or, or_false, reduceIte, h28, nI_eq_iff (show fr i < 2147483648 by omega) (show hd < 2147483648 by omega)]
    refine ⟨fun q4 => k44 (Or.inr ⟨q2, Or.inr q4⟩), fun q4 => k48 (fun z => ?_)⟩
    rcases z with z | ⟨-, z | z⟩
    · exact q1 z
    · exact q3 z
    · exact q4 z
  · rcases z with z | ⟨z, -⟩
    · exact q1 z
    · exact q2 z
set_option maxHeartbeats 1000000 in
theorem sp_tabulate (hc : SKF c) {n hd : Nat} {fr to : Nat → Nat} (hP : PD c n hd fr to) (h10 : mI c 2 10 0 = 0) (H : ∀ c' m, FRI wT c c' → STm c' n hd fr to m → RF c' n hd fr to 24 → Q [] (pm c' M)) : K_X2_tabulate l D (d + 4) [.ref (ob 2 0)] (pm c M) Q := by
  refine m_X2_tabulate (lsA := [.ref (ob 2 0), jk, jk, jk]) rfl (Nat.le_of_ble_eq_true rfl) ?_
  intro X h0 h13 h23 h81 h87 h93
  have hn := hP.1
  have hPw : ∀ {c1}, FRI wT c c1 → PD c1 n hd fr to := fun g => hP.fr g (fun k i j w => by obtain ⟨-, w⟩ := w; omega)
  have loopB : ∀ i, i < n → (∀ c1 m w2 w3, FRI wT c c1 → TBq c1 n hd fr to ((i + 1) * 3) m → X 13 [.ref (ob 2 0), .int (nI (i + 1)), w2, w3] [] (pm c1 M) 0 0) → ∀ r w c1 m w3, w + r = 3 → FRI wT c c1 → TBq c1 n hd fr to (i * 3 + w) m → X 23 [.ref (ob 2 0), .int (nI i), .int (nI w - 1), w3] [] (pm c1 M) 0 0 := by
    intro i hi K r
    induction r with
    | zero =>
      intro w c1 m w3 hw hF hB
      obtain rfl : w = 3 := by omega
      apply h23
      simp only [B_X2_tabulate_23, o_il, o_ic, o_ic2, o_al, o_if, o_ii, o_is, o_gf, o_dup, o_pI, nth_2, nth_0, nth_1, lset_3, nth_3, opV_2, opS_3, opS_2, opV_3, mV_2_5, al_2, hc.p2_5, kd_13, ix_13, hc.l13, cI_13, cw_13, hc.a2, ix_2, mV_2_10, cI_2, mV_2_2, hc.p2_2, kd_10, ix_10, hc.l10, cI_10, cw_10, cw_2, cats_nil, cats_cons, rf_s, rf_n, isR_r, isR_n, isR_rf, cat_i, cat_l, cat_r, cat_n, cat_rf, unl_i, unl_l, unl_r, unl_n, unl_j, unl_rf, orf_r, orf_n, orf_rf, rf_null, mA_pm, mL_pm, mP_pm, List.length_cons, List.length_nil, List.cons_append, List.nil_append, Nat.reduceAdd, Nat.reduceLeDiff, Nat.reduceLT, Nat.reduceEqDiff, Nat.zero_add, Nat.add_zero, Nat.le_refl, Nat.zero_le, true_and, and_true, true_or, or_true, false_or, or_false, reduceIte]
      refine ⟨fun _ => ?_, fun z => absurd (by decide) z⟩
      apply h87
      simp only [B_X2_tabulate_87, o_inc, nth_1, lset_1, cats_nil, cats_cons, rf_s, rf_n, isR_r, isR_n, isR_rf, cat_i, cat_l, cat_r, cat_n, cat_rf, unl_i, unl_l, unl_r, unl_n, unl_j, unl_rf, orf_r, orf_n, orf_rf, rf_null, mA_pm, mL_pm, mP_pm, List.length_cons, List.length_nil, List.cons_append, List.nil_append, Nat.reduceAdd, Nat.reduceLeDiff, Nat.reduceLT, Nat.reduceEqDiff, Nat.zero_add, Nat.add_zero, Nat.le_refl, Nat.zero_le, true_and, and_true, true_or, or_true, false_or, or_false, reduceIte, nI_1]
      exact K c1 m _ _ hF (by rw [show (i + 1) * 3 = i * 3 + 3 by omega]; exact hB)
    | succ r ih =>
      intro w c1 m w3 hw hF hB
      have hw3 : w < 3 := by omega
      have hc1 := hF.sk hc
      obtain ⟨b1, b2, b3, b4, b5⟩ := hB
      have k81 : ∀ c2 m w3, FRI wT c c2 → TBq c2 n hd fr to (i * 3 + (w + 1)) m → X 81 [.ref (ob 2 0), .int (nI i), .int (nI w - 1), w3] [] (pm c2 M) 0 0 := by
        intro c2 m w3 f1 f2
        apply h81
        simp only [B_X2_tabulate_81, o_inc, nth_2, lset_2, cats_nil, cats_cons, rf_s, rf_n, isR_r, isR_n, isR_rf, cat_i, cat_l, cat_r, cat_n, cat_rf, unl_i, unl_l, unl_r, unl_n, unl_j, unl_rf, orf_r, orf_n, orf_rf, rf_null, mA_pm, mL_pm, mP_pm, List.length_cons, List.length_nil, List.cons_append, List.nil_append, Nat.reduceAdd, Nat.reduceLeDiff, Nat.reduceLT, Nat.reduceEqDiff, Nat.zero_add, Nat.add_zero, Nat.le_refl, Nat.zero_le, true_and, and_true, true_or, or_true, false_or, or_false, reduceIte]
        rw [show nI w - 1 + 1 = nI (w + 1) - 1 by rw [← nI_1]; grind]
        exact ih (w + 1) c2 m w3 (by omega) f1 f2
      apply h23
      simp only [B_X2_tabulate_23, o_il, o_ic, o_ic2, o_al, o_if, o_ii, o_is, o_gf, o_dup, o_pI, nth_2, nth_0, nth_1, lset_3, nth_3, opV_2, opS_3, opS_2, opV_3, mV_2_5, al_2, hc.p2_5, kd_13, ix_13, hc.l13, cI_13, cw_13, hc.a2, ix_2, mV_2_10, cI_2, mV_2_2, hc.p2_2, kd_10, ix_10, hc.l10, cI_10, cw_10, cw_2, cats_nil, cats_cons, rf_s, rf_n, isR_r, isR_n, isR_rf, cat_i, cat_l, cat_r, cat_n, cat_rf, unl_i, unl_l, unl_r, unl_n, unl_j, unl_rf, orf_r, orf_n, orf_rf, rf_null, mA_pm, mL_pm, mP_pm, List.length_cons, List.length_nil, List.cons_append, List.nil_append, Nat.reduceAdd, Nat.reduceLeDiff, Nat.reduceLT, Nat.reduceEqDiff, Nat.zero_add, Nat.add_zero, Nat.le_refl, Nat.zero_le, true_and, and_true, true_or, or_true, false_or, or_false, reduceIte, hc1.a2]
      refine ⟨fun z => absurd z ?_, fun _ => ?_⟩
      · have : w = 0 ∨ w = 1 ∨ w = 2 := by omega
        rcases this with rfl | rfl | rfl <;> decide
      · refine sp_canLeave hc1 (hPw hF) hi hw3 (fun x hx => ?_)
        obtain ⟨s, hs⟩ : ∃ s, s = i * 3 + w := ⟨_, rfl⟩
        have e1 : s / 3 = i := by omega
        have e2 : s % 3 = w := by omega
        have hs24 : s < 24 := by omega
        have hm24 : m < 24 := by omega
        have e3 : nI i * (3 : Int32) + (nI w - 1) + 1 = nI s := by
          rw [show (3 : Int32) = nI 3 from rfl, pk_mul, hs, ← nI_add]
          grind
        rw [← hs] at b1 b4 b5
        simp only [o_il, o_ic, o_ic2, o_al, o_if, o_ii, o_is, o_gf, o_dup, o_pI, nth_2, nth_0, nth_1, lset_3, nth_3, opV_2, opS_3, opS_2, opV_3, mV_2_5, al_2, hc.p2_5, kd_13, ix_13, hc.l13, cI_13, cw_13, hc.a2, ix_2, mV_2_10, cI_2, mV_2_2, hc.p2_2, kd_10, ix_10, hc.l10, cI_10, cw_10, cw_2, cats_nil, cats_cons, rf_s, rf_n, isR_r, isR_n, isR_rf, cat_i, cat_l, cat_r, cat_n, cat_rf, unl_i, unl_l, unl_r, unl_n, unl_j, unl_rf, orf_r, orf_n, orf_rf, rf_null, mA_pm, mL_pm, mP_pm, List.length_cons, List.length_nil, List.cons_append, List.nil_append, Nat.reduceAdd, Nat.reduceLeDiff, Nat.reduceLT, Nat.reduceEqDiff, Nat.zero_add, Nat.add_zero, Nat.le_refl, Nat.zero_le, true_and, and_true, true_or, or_true, false_or, or_false, reduceIte, hc1.a2, e3, b2, hc1.p2_5, hc1.p2_2]
        rcases hx with ⟨rfl, hx⟩ | ⟨rfl, hx⟩
        · refine ⟨fun z => absurd z (by decide), fun _ => ?_⟩
          refine sp_put (n := 24) (by decide) rfl hc1.l13 (by omega) hm24 _ ?_
          simp only [o_il, o_ic, o_ic2, o_al, o_if, o_ii, o_is, o_gf, o_dup, o_pI, nth_2, nth_0, nth_1, lset_3, nth_3, opV_2, opS_3, opS_2, opV_3, mV_2_5, al_2, hc.p2_5, kd_13, ix_13, hc.l13, cI_13, cw_13, hc.a2, ix_2, mV_2_10, cI_2, mV_2_2, hc.p2_2, kd_10, ix_10, hc.l10, cI_10, cw_10, cw_2, cats_nil, cats_cons, rf_s, rf_n, isR_r, isR_n, isR_rf, cat_i, cat_l, cat_r, cat_n, cat_rf, unl_i, unl_l, unl_r, unl_n, unl_j, unl_rf, orf_r, orf_n, orf_rf, rf_null, mA_pm, mL_pm, mP_pm, List.length_cons, List.length_nil, List.cons_append, List.nil_append, Nat.reduceAdd, Nat.reduceLeDiff, Nat.reduceLT, Nat.reduceEqDiff, Nat.zero_add, Nat.add_zero, Nat.le_refl, Nat.zero_le, true_and, and_true, true_or, or_true, false_or, or_false, reduceIte, mA_wI, mP_wI, mI_wI, hc1.a2, b2, hc1.p2_2, nI_1, false_and]
          have hF2 : FRI wT c (wI (wI c1 13 m 0 (nI s)) 2 10 0 (nI (m + 1))) := (hF.w _ ⟨rfl, by omega⟩).w _ ⟨rfl, by omega⟩
          obtain ⟨c2, hc2e⟩ : ∃ c2, c2 = wI (wI c1 13 m 0 (nI s)) 2 10 0 (nI (m + 1)) := ⟨_, rfl⟩
          rw [← hc2e] at hF2
          have hc2 := hF2.sk hc
          have hP2 := hPw hF2
          have g10 : mI c2 10 i 0 = nI (to i) := (hP2.2.2.2.2 i hi).2.1
          have hto := (hP2.2.2.2.2 i hi).2.2.2
          rw [hc2e] at hc2 hP2 g10
          refine sp_at (n := 8) (by decide) rfl hc2.l10 (by omega) (show i < 8 by omega) ?_
          rw [g10]
          simp only [o_il, o_ic, o_ic2, o_al, o_if, o_ii, o_is, o_gf, o_dup, o_pI, nth_2, nth_0, nth_1, lset_3, nth_3, opV_2, opS_3, opS_2, opV_3, mV_2_5, al_2, hc.p2_5, kd_13, ix_13, hc.l13, cI_13, cw_13, hc.a2, ix_2, mV_2_10, cI_2, mV_2_2, hc.p2_2, kd_10, ix_10, hc.l10, cI_10, cw_10, cw_2, cats_nil, cats_cons, rf_s, rf_n, isR_r, isR_n, isR_rf, cat_i, cat_l, cat_r, cat_n, cat_rf, unl_i, unl_l, unl_r, unl_n, unl_j, unl_rf, orf_r, orf_n, orf_rf, rf_null, mA_pm, mL_pm, mP_pm, List.length_cons, List.length_nil, List.cons_append, List.nil_append, Nat.reduceAdd, Nat.reduceLeDiff, Nat.reduceLT, Nat.reduceEqDiff, Nat.zero_add, Nat.add_zero, Nat.le_refl, Nat.zero_le, true_and, and_true, true_or, or_true, false_or, or_false, reduceIte, hc2.a2]
          have hok : okS n hd fr to s := Or.inr ⟨hs24, by omega, by rw [e1, e2]; exact hx⟩
          refine sp_fillState hc2 hP2 (s := s) (p := to i) (v := w) (by omega) ?_ ?_ hto (fun c3 f1 f2 => ?_)
          · unfold plS
            rw [if_neg (by omega), e1]
          · unfold wyS
            rw [if_neg (by omega), e2]
          · rw [← hc2e] at f1
            have hF3 : FRI wT c c3 := hF2.tr (f1.mo (fun k i j z => ⟨z.2.1, by have := z.1; omega⟩))
            have g3 : ∀ k, mI c3 13 k 0 = if k = m then nI s else mI c1 13 k 0 := fun k => by
              rw [f1.I (fun z => by have := z.1; omega), hc2e, mI_wI, mI_wI, if_neg (by omega)]
              by_cases e : k = m
              · rw [if_pos ⟨rfl, e, rfl⟩, if_pos e]
              · rw [if_neg (fun z => e z.2.1), if_neg e]
            have hRF : ∀ s', s' ≠ s → RF c1 n hd fr to s' → RF c3 n hd fr to s' := fun s' hne h => by
              have h2 : RF c2 n hd fr to s' := fun j hj => by
                rw [hc2e, mI_wI, mI_wI, mI_wI, mI_wI, if_neg (by omega), if_neg (by omega), if_neg (by omega), if_neg (by omega)]
                exact h j hj
              exact h2.ne hn f1 hne
            simp only [o_il, o_ic, o_ic2, o_al, o_if, o_ii, o_is, o_gf, o_dup, o_pI, nth_2, nth_0, nth_1, lset_3, nth_3, opV_2, opS_3, opS_2, opV_3, mV_2_5, al_2, hc.p2_5, kd_13, ix_13, hc.l13, cI_13, cw_13, hc.a2, ix_2, mV_2_10, cI_2, mV_2_2, hc.p2_2, kd_10, ix_10, hc.l10, cI_10, cw_10, cw_2, cats_nil, cats_cons, rf_s, rf_n, isR_r, isR_n, isR_rf, cat_i, cat_l, cat_r, cat_n, cat_rf, unl_i, unl_l, unl_r, unl_n, unl_j, unl_rf, orf_r, orf_n, orf_rf, rf_null, mA_pm, mL_pm, mP_pm, List.length_cons, List.length_nil, List.cons_append, List.nil_append, Nat.reduceAdd, Nat.reduceLeDiff, Nat.reduceLT, Nat.reduceEqDiff, Nat.zero_add, Nat.add_zero, Nat.le_refl, Nat.zero_le, true_and, and_true, true_or, or_true, false_or, or_false, reduceIte]
            refine k81 c3 (m + 1) _ hF3 ⟨by omega, ?_, hRF 24 (by omega) b3, fun k hk => ?_, fun s' h1 h2 h3 => ?_⟩
            · rw [f1.I (fun z => by have := z.1; omega), hc2e, mI_wI, if_pos ⟨rfl, rfl, rfl⟩]
            · by_cases e : k = m
              · exact ⟨s, by omega, hs24, hok, by rw [g3, if_pos e], f2⟩
              · obtain ⟨s', s1, s2, s3, s4, s5⟩ := b4 k (by omega)
                exact ⟨s', by omega, s2, s3, by rw [g3, if_neg e]; exact s4, hRF s' (by omega) s5⟩
            · by_cases e : s' = s
              · exact ⟨m, by omega, by rw [g3, if_pos rfl, e]⟩
              · obtain ⟨k, k1, k2⟩ := b5 s' (by omega) h2 h3
                exact ⟨k, by omega, by rw [g3, if_neg (by omega)]; exact k2⟩
        · refine ⟨fun _ => ?_, fun z => by first | exact absurd rfl z | exact absurd trivial z⟩
          refine k81 c1 m _ hF ⟨by omega, b2, b3, fun k hk => ?_, fun s' h1 h2 h3 => ?_⟩
          · obtain ⟨s', s1, s2⟩ := b4 k hk
            exact ⟨s', by omega, s2⟩
          · by_cases e : s' = s
            · rw [e] at h3
              rcases h3 with h3 | ⟨-, -, h3⟩
              · omega
              · rw [e1, e2] at h3
                exact absurd h3 hx
            · exact b5 s' (by omega) h2 h3
  have loopA : ∀ r i c1 m w2 w3, i + r = n → FRI wT c c1 → TBq c1 n hd fr to (i * 3) m → X 13 [.ref (ob 2 0), .int (nI i), w2, w3] [] (pm c1 M) 0 0 := by
    intro r
    induction r with
    | zero =>
      intro i c1 m w2 w3 hi hF hB
      obtain rfl : i = n := by omega
      have hc1 := hF.sk hc
      obtain ⟨b1, b2, b3, b4, b5⟩ := hB
      apply h13
      simp only [B_X2_tabulate_13, o_il, o_al, o_gf, o_ic2, o_ic, o_is, nth_1, nth_0, lset_2, mV_2_9, al_2, cI_2, hc.a2, ix_2, cats_nil, cats_cons, rf_s, rf_n, isR_r, isR_n, isR_rf, cat_i, cat_l, cat_r, cat_n, cat_rf, unl_i, unl_l, unl_r, unl_n, unl_j, unl_rf, orf_r, orf_n, orf_rf, rf_null, mA_pm, mL_pm, mP_pm, List.length_cons, List.length_nil, List.cons_append, List.nil_append, Nat.reduceAdd, Nat.reduceLeDiff, Nat.reduceLT, Nat.reduceEqDiff, Nat.zero_add, Nat.add_zero, Nat.le_refl, Nat.zero_le, true_and, and_true, true_or, or_true, false_or, or_false, reduceIte, hc1.a2, (hPw hF).2.2.1]
      refine ⟨fun _ => ?_, fun z => absurd (nI_le (by omega) (by omega)) z⟩
      apply h93
      simp only [B_X2_tabulate_93, o_vret, cats_nil, cats_cons, rf_s, rf_n, isR_r, isR_n, isR_rf, cat_i, cat_l, cat_r, cat_n, cat_rf, unl_i, unl_l, unl_r, unl_n, unl_j, unl_rf, orf_r, orf_n, orf_rf, rf_null, mA_pm, mL_pm, mP_pm, List.length_cons, List.length_nil, List.cons_append, List.nil_append, Nat.reduceAdd, Nat.reduceLeDiff, Nat.reduceLT, Nat.reduceEqDiff, Nat.zero_add, Nat.add_zero, Nat.le_refl, Nat.zero_le, true_and, and_true, true_or, or_true, false_or, or_false, reduceIte]
      refine H c1 m hF ⟨by omega, b2, fun k hk => ?_, fun s h1 h2 => ?_⟩ b3
      · obtain ⟨s, s1, s2, s3, s4, s5⟩ := b4 k hk
        exact ⟨s, s2, s3, s4, s5⟩
      · refine b5 s ?_ h1 h2
        rcases h2 with h2 | ⟨-, h2, -⟩ <;> omega
    | succ r ih =>
      intro i c1 m w2 w3 hi hF hB
      have hc1 := hF.sk hc
      apply h13
      simp only [B_X2_tabulate_13, o_il, o_al, o_gf, o_ic2, o_ic, o_is, nth_1, nth_0, lset_2, mV_2_9, al_2, cI_2, hc.a2, ix_2, cats_nil, cats_cons, rf_s, rf_n, isR_r, isR_n, isR_rf, cat_i, cat_l, cat_r, cat_n, cat_rf, unl_i, unl_l, unl_r, unl_n, unl_j, unl_rf, orf_r, orf_n, orf_rf, rf_null, mA_pm, mL_pm, mP_pm, List.length_cons, List.length_nil, List.cons_append, List.nil_append, Nat.reduceAdd, Nat.reduceLeDiff, Nat.reduceLT, Nat.reduceEqDiff, Nat.zero_add, Nat.add_zero, Nat.le_refl, Nat.zero_le, true_and, and_true, true_or, or_true, false_or, or_false, reduceIte, hc1.a2, (hPw hF).2.2.1]
      refine ⟨fun z => absurd z (by rw [nI_le_iff]; omega), fun _ => ?_⟩
      exact loopB i (by omega) (fun c2 m2 w2 w3 f1 f2 => ih (i + 1) c2 m2 w2 w3 (by omega) f1 f2) 3 0 c1 m w3 (by omega) hF hB
  apply h0
  simp only [B_X2_tabulate_0, o_al, o_ic, o_gf, o_is, nth_0, lset_1, opV_3, mV_2_8, al_2, cI_2, hc.a2, ix_2, cats_nil, cats_cons, rf_s, rf_n, isR_r, isR_n, isR_rf, cat_i, cat_l, cat_r, cat_n, cat_rf, unl_i, unl_l, unl_r, unl_n, unl_j, unl_rf, orf_r, orf_n, orf_rf, rf_null, mA_pm, mL_pm, mP_pm, List.length_cons, List.length_nil, List.cons_append, List.nil_append, Nat.reduceAdd, Nat.reduceLeDiff, Nat.reduceLT, Nat.reduceEqDiff, Nat.zero_add, Nat.add_zero, Nat.le_refl, Nat.zero_le, true_and, and_true, true_or, or_true, false_or, or_false, reduceIte, hP.2.2.2.1]
  refine sp_fillState hc hP (s := 24) (p := hd) (v := 1) (by omega) rfl rfl hP.2.1 (fun c3 f1 f2 => ?_)
  simp only [o_al, o_ic, o_gf, o_is, nth_0, lset_1, opV_3, mV_2_8, al_2, cI_2, hc.a2, ix_2, cats_nil, cats_cons, rf_s, rf_n, isR_r, isR_n, isR_rf, cat_i, cat_l, cat_r, cat_n, cat_rf, unl_i, unl_l, unl_r, unl_n, unl_j, unl_rf, orf_r, orf_n, orf_rf, rf_null, mA_pm, mL_pm, mP_pm, List.length_cons, List.length_nil, List.cons_append, List.nil_append, Nat.reduceAdd, Nat.reduceLeDiff, Nat.reduceLT, Nat.reduceEqDiff, Nat.zero_add, Nat.add_zero, Nat.le_refl, Nat.zero_le, true_and, and_true, true_or, or_true, false_or, or_false, reduceIte]
  exact loopA n 0 c3 0 _ _ (by omega) (f1.mo (fun k i j z => ⟨z.2.1, by have := z.1; omega⟩)) ⟨by omega, by rw [f1.I (fun z => by have := z.1; omega)]; exact h10, f2, fun k hk => by omega, fun s hs => by omega⟩
end ZC7
