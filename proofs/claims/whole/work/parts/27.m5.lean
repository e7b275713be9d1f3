/-! The model: cost, may, jobs, results -/
section ZM5
variable {l : Launch} {D : DD} {d : Nat} {c : HP} {M : MD} {Q : List Value → HP → Prop}
set_option maxHeartbeats 1000000 in
theorem sp_costOf (hs : SKM c) {n t : Nat} (hn : n < 150) (ht : t < 12) (hnt : M.1 26 n = nI t) (h w : Int32) (H : Q [.int (costF (fromF M n) (toF M n) h w)] (pm c (uI M 7 20 (wayF (fromF M n) (toF M n) h w)))) : K_X7_costOf l D (d + 2) [.ref (ob 7 0), .int (nI n), .int h, .int w] (pm c M) Q := by
  refine m_X7_costOf (lsA := [.ref (ob 7 0), .int (nI n), .int h, .int w, jk, jk, jk, jk, jk]) rfl (Nat.le_of_ble_eq_true rfl) ?_
  intro X h0 h42 h43 h60 h64 h76 h77 h85 h104 h105 h111
  apply h0
  simp only [B_X7_costOf_0, o_al, o_il, o_is, o_ii, o_ic, o_ic2, nth_0, nth_1, lset_4, lset_5, nth_5, nth_4, lset_6, nth_3, lset_7, nth_2, opV_1, al_7, ix_7, hs.a7, cats_nil, cats_cons, rf_s, rf_n, isR_r, isR_n, isR_rf, cat_i, cat_l, cat_r, cat_n, cat_rf, unl_i, unl_l, unl_r, unl_n, unl_j, unl_rf, orf_r, orf_n, orf_rf, rf_null, mA_pm, mL_pm, mP_pm, List.length_cons, List.length_nil, List.cons_append, List.nil_append, Nat.reduceAdd, Nat.reduceLeDiff, Nat.reduceLT, Nat.reduceEqDiff, Nat.zero_add, Nat.add_zero, Nat.le_refl, Nat.zero_le, true_and, and_true, true_or, or_true, false_or, or_false, reduceIte]
  refine sp_fromOf hs hn ?_
  simp only [o_al, o_il, o_is, o_ii, o_ic, o_ic2, nth_0, nth_1, lset_4, lset_5, nth_5, nth_4, lset_6, nth_3, lset_7, nth_2, opV_1, al_7, ix_7, hs.a7, cats_nil, cats_cons, rf_s, rf_n, isR_r, isR_n, isR_rf, cat_i, cat_l, cat_r, cat_n, cat_rf, unl_i, unl_l, unl_r, unl_n, unl_j, unl_rf, orf_r, orf_n, orf_rf, rf_null, mA_pm, mL_pm, mP_pm, List.length_cons, List.length_nil, List.cons_append, List.nil_append, Nat.reduceAdd, Nat.reduceLeDiff, Nat.reduceLT, Nat.reduceEqDiff, Nat.zero_add, Nat.add_zero, Nat.le_refl, Nat.zero_le, true_and, and_true, true_or, or_true, false_or, or_false, reduceIte]
  refine sp_toOf hs hn ht hnt ?_
  simp only [o_al, o_il, o_is, o_ii, o_ic, o_ic2, nth_0, nth_1, lset_4, lset_5, nth_5, nth_4, lset_6, nth_3, lset_7, nth_2, opV_1, al_7, ix_7, hs.a7, cats_nil, cats_cons, rf_s, rf_n, isR_r, isR_n, isR_rf, cat_i, cat_l, cat_r, cat_n, cat_rf, unl_i, unl_l, unl_r, unl_n, unl_j, unl_rf, orf_r, orf_n, orf_rf, rf_null, mA_pm, mL_pm, mP_pm, List.length_cons, List.length_nil, List.cons_append, List.nil_append, Nat.reduceAdd, Nat.reduceLeDiff, Nat.reduceLT, Nat.reduceEqDiff, Nat.zero_add, Nat.add_zero, Nat.le_refl, Nat.zero_le, true_and, and_true, true_or, or_true, false_or, or_false, reduceIte]
  generalize fromF M n = fr at H ⊢
  generalize toF M n = to at H ⊢
  have j111 : ∀ (r w' : Int32) v, r = costF fr to h w → w' = wayF fr to h w → X 111 [.ref (ob 7 0), .int (nI n), .int h, .int w, .int fr, .int to, .int r, .int w', v] [] (pm c M) 0 0 := by
    intro r w' v hr hw
    apply h111
    simp only [B_X7_costOf_111, o_al, o_il, o_pI, o_iret, nth_0, nth_7, nth_6, al_7, ix_7, hs.a7, wm_7, wmJ_7, cats_nil, cats_cons, rf_s, rf_n, isR_r, isR_n, isR_rf, cat_i, cat_l, cat_r, cat_n, cat_rf, unl_i, unl_l, unl_r, unl_n, unl_j, unl_rf, orf_r, orf_n, orf_rf, rf_null, mA_pm, mL_pm, mP_pm, List.length_cons, List.length_nil, List.cons_append, List.nil_append, Nat.reduceAdd, Nat.reduceLeDiff, Nat.reduceLT, Nat.reduceEqDiff, Nat.zero_add, Nat.add_zero, Nat.le_refl, Nat.zero_le, true_and, and_true, true_or, or_true, false_or, or_false, reduceIte]
    rw [hr, hw]
    exact H
  have j85 : ∀ (r w' : Int32) v, r = cost1 fr to h w → w' = way1 fr h w → X 85 [.ref (ob 7 0), .int (nI n), .int h, .int w, .int fr, .int to, .int r, .int w', v] [] (pm c M) 0 0 := by
    intro r w' v hr hw
    have j105 : ∀ z : Int32, ¬ to ≤ fr → z = (if way1 fr h w = -1 then 2 else 0) → X 105 [.ref (ob 7 0), .int (nI n), .int h, .int w, .int fr, .int to, .int r, .int w', v] [.int z, .int r] (pm c M) 0 0 := by
      intro z q hz
      apply h105
      simp only [B_X7_costOf_105, o_ii, o_is, o_ic, lset_6, lset_7, cats_nil, cats_cons, rf_s, rf_n, isR_r, isR_n, isR_rf, cat_i, cat_l, cat_r, cat_n, cat_rf, unl_i, unl_l, unl_r, unl_n, unl_j, unl_rf, orf_r, orf_n, orf_rf, rf_null, mA_pm, mL_pm, mP_pm, List.length_cons, List.length_nil, List.cons_append, List.nil_append, Nat.reduceAdd, Nat.reduceLeDiff, Nat.reduceLT, Nat.reduceEqDiff, Nat.zero_add, Nat.add_zero, Nat.le_refl, Nat.zero_le, true_and, and_true, true_or, or_true, false_or, or_false, reduceIte]
      exact j111 _ _ _ (by rw [costF, if_neg q, hr, hz]) (by rw [wayF, if_neg q])
    apply h85
    simp only [B_X7_costOf_85, o_il, o_ic2, o_ic, nth_5, nth_4, nth_6, nth_7, cats_nil, cats_cons, rf_s, rf_n, isR_r, isR_n, isR_rf, cat_i, cat_l, cat_r, cat_n, cat_rf, unl_i, unl_l, unl_r, unl_n, unl_j, unl_rf, orf_r, orf_n, orf_rf, rf_null, mA_pm, mL_pm, mP_pm, List.length_cons, List.length_nil, List.cons_append, List.nil_append, Nat.reduceAdd, Nat.reduceLeDiff, Nat.reduceLT, Nat.reduceEqDiff, Nat.zero_add, Nat.add_zero, Nat.le_refl, Nat.zero_le, true_and, and_true, true_or, or_true, false_or, or_false, reduceIte]
    refine ⟨fun q => j111 _ _ _ (by rw [costF, if_pos q, hr]) (by rw [wayF, if_pos q, hw]), fun q => ⟨fun q2 => j105 2 q (by rw [← hw, if_pos q2]), fun q2 => ?_⟩⟩
    apply h104
    simp only [B_X7_costOf_104, o_ic, cats_nil, cats_cons, rf_s, rf_n, isR_r, isR_n, isR_rf, cat_i, cat_l, cat_r, cat_n, cat_rf, unl_i, unl_l, unl_r, unl_n, unl_j, unl_rf, orf_r, orf_n, orf_rf, rf_null, mA_pm, mL_pm, mP_pm, List.length_cons, List.length_nil, List.cons_append, List.nil_append, Nat.reduceAdd, Nat.reduceLeDiff, Nat.reduceLT, Nat.reduceEqDiff, Nat.zero_add, Nat.add_zero, Nat.le_refl, Nat.zero_le, true_and, and_true, true_or, or_true, false_or, or_false, reduceIte]
    exact j105 0 q (by rw [← hw, if_neg q2])
  have j77 : ∀ (y z g : Int32), ¬ fr = h → y = (if fr ≤ h then h - fr else fr - h) → g = (if fr ≤ h then -1 else 1) → z = (if w = -(if fr ≤ h then -1 else 1) then 2 else 0) → X 77 [.ref (ob 7 0), .int (nI n), .int h, .int w, .int fr, .int to, .int (to - fr + 1), .int w, .int g] [.int z, .int y, .int (to - fr + 1)] (pm c M) 0 0 := by
    intro y z g q hy hg hz
    apply h77
    simp only [B_X7_costOf_77, o_ii, o_is, o_il, lset_6, nth_8, lset_7, cats_nil, cats_cons, rf_s, rf_n, isR_r, isR_n, isR_rf, cat_i, cat_l, cat_r, cat_n, cat_rf, unl_i, unl_l, unl_r, unl_n, unl_j, unl_rf, orf_r, orf_n, orf_rf, rf_null, mA_pm, mL_pm, mP_pm, List.length_cons, List.length_nil, List.cons_append, List.nil_append, Nat.reduceAdd, Nat.reduceLeDiff, Nat.reduceLT, Nat.reduceEqDiff, Nat.zero_add, Nat.add_zero, Nat.le_refl, Nat.zero_le, true_and, and_true, true_or, or_true, false_or, or_false, reduceIte]
    exact j85 _ _ _ (by rw [cost1, if_neg q, hy, hz]) (by rw [way1, if_neg q, hg])
  have j64 : ∀ (y g : Int32), ¬ fr = h → y = (if fr ≤ h then h - fr else fr - h) → g = (if fr ≤ h then -1 else 1) → X 64 [.ref (ob 7 0), .int (nI n), .int h, .int w, .int fr, .int to, .int (to - fr + 1), .int w, .int g] [.int y, .int (to - fr + 1)] (pm c M) 0 0 := by
    intro y g q hy hg
    apply h64
    simp only [B_X7_costOf_64, o_il, o_i, o_ic2, o_ic, nth_7, nth_8, cats_nil, cats_cons, rf_s, rf_n, isR_r, isR_n, isR_rf, cat_i, cat_l, cat_r, cat_n, cat_rf, unl_i, unl_l, unl_r, unl_n, unl_j, unl_rf, orf_r, orf_n, orf_rf, rf_null, mA_pm, mL_pm, mP_pm, List.length_cons, List.length_nil, List.cons_append, List.nil_append, Nat.reduceAdd, Nat.reduceLeDiff, Nat.reduceLT, Nat.reduceEqDiff, Nat.zero_add, Nat.add_zero, Nat.le_refl, Nat.zero_le, true_and, and_true, true_or, or_true, false_or, or_false, reduceIte]
    refine ⟨fun q2 => j77 y 2 g q hy hg (by rw [← hg, if_pos q2]), fun q2 => ?_⟩
    apply h76
    simp only [B_X7_costOf_76, o_ic, cats_nil, cats_cons, rf_s, rf_n, isR_r, isR_n, isR_rf, cat_i, cat_l, cat_r, cat_n, cat_rf, unl_i, unl_l, unl_r, unl_n, unl_j, unl_rf, orf_r, orf_n, orf_rf, rf_null, mA_pm, mL_pm, mP_pm, List.length_cons, List.length_nil, List.cons_append, List.nil_append, Nat.reduceAdd, Nat.reduceLeDiff, Nat.reduceLT, Nat.reduceEqDiff, Nat.zero_add, Nat.add_zero, Nat.le_refl, Nat.zero_le, true_and, and_true, true_or, or_true, false_or, or_false, reduceIte]
    exact j77 y 0 g q hy hg (by rw [← hg, if_neg q2])
  have j43 : ∀ (g : Int32) v, ¬ fr = h → g = (if fr ≤ h then -1 else 1) → X 43 [.ref (ob 7 0), .int (nI n), .int h, .int w, .int fr, .int to, .int (to - fr + 1), .int w, v] [.int g] (pm c M) 0 0 := by
    intro g v q hg
    apply h43
    simp only [B_X7_costOf_43, o_is, o_il, o_ic2, o_ii, lset_8, nth_6, nth_4, nth_2, cats_nil, cats_cons, rf_s, rf_n, isR_r, isR_n, isR_rf, cat_i, cat_l, cat_r, cat_n, cat_rf, unl_i, unl_l, unl_r, unl_n, unl_j, unl_rf, orf_r, orf_n, orf_rf, rf_null, mA_pm, mL_pm, mP_pm, List.length_cons, List.length_nil, List.cons_append, List.nil_append, Nat.reduceAdd, Nat.reduceLeDiff, Nat.reduceLT, Nat.reduceEqDiff, Nat.zero_add, Nat.add_zero, Nat.le_refl, Nat.zero_le, true_and, and_true, true_or, or_true, false_or, or_false, reduceIte]
    refine ⟨fun q2 => ?_, fun q2 => j64 _ g q (by rw [if_neg q2]) hg⟩
    apply h60
    simp only [B_X7_costOf_60, o_il, o_ii, nth_2, nth_4, cats_nil, cats_cons, rf_s, rf_n, isR_r, isR_n, isR_rf, cat_i, cat_l, cat_r, cat_n, cat_rf, unl_i, unl_l, unl_r, unl_n, unl_j, unl_rf, orf_r, orf_n, orf_rf, rf_null, mA_pm, mL_pm, mP_pm, List.length_cons, List.length_nil, List.cons_append, List.nil_append, Nat.reduceAdd, Nat.reduceLeDiff, Nat.reduceLT, Nat.reduceEqDiff, Nat.zero_add, Nat.add_zero, Nat.le_refl, Nat.zero_le, true_and, and_true, true_or, or_true, false_or, or_false, reduceIte]
    exact j64 _ g q (by rw [if_pos q2]) hg
  refine ⟨fun q => j85 _ _ _ (by rw [cost1, if_pos q]) (by rw [way1, if_pos q]), fun q => ⟨fun q2 => ?_, fun q2 => j43 1 _ q (by rw [if_neg q2])⟩⟩
  apply h42
  simp only [B_X7_costOf_42, o_ic, cats_nil, cats_cons, rf_s, rf_n, isR_r, isR_n, isR_rf, cat_i, cat_l, cat_r, cat_n, cat_rf, unl_i, unl_l, unl_r, unl_n, unl_j, unl_rf, orf_r, orf_n, orf_rf, rf_null, mA_pm, mL_pm, mP_pm, List.length_cons, List.length_nil, List.cons_append, List.nil_append, Nat.reduceAdd, Nat.reduceLeDiff, Nat.reduceLT, Nat.reduceEqDiff, Nat.zero_add, Nat.add_zero, Nat.le_refl, Nat.zero_le, true_and, and_true, true_or, or_true, false_or, or_false, reduceIte]
  exact j43 (-1) _ q (by rw [if_pos q2])
/-- MAY: the least and the greatest place of a job, with the arm's own -/
def lo3 (a b c : Int32) : Int32 := if (if c < b then c else b) < a then (if c < b then c else b) else a
def hi3 (a b c : Int32) : Int32 := if a < (if b < c then c else b) then (if b < c then c else b) else a
def goalF (M : MD) (o : Nat) : Int32 := if M.1 80 o = 0 then M.1 44 o else M.1 45 o
def mayF (M : MD) (k : Nat) (fr to : Int32) : Prop := M.1 43 (1 - k) = -1 ∨ (if k = 0 then hi3 (M.1 42 k) fr to < lo3 (M.1 42 (1 - k)) (goalF M (1 - k)) (M.1 45 (1 - k)) else hi3 (M.1 42 (1 - k)) (goalF M (1 - k)) (M.1 45 (1 - k)) < lo3 (M.1 42 k) fr to)
theorem sp_may (hs : SKM c) {k : Nat} (hk : k < 2) (fr to : Int32) (H : ∀ r : Int32, (r = 1 ∧ mayF M k fr to) ∨ (r = 0 ∧ ¬ mayF M k fr to) → Q [.int r] (pm c M)) : K_X7_may l D (d + 1) [.ref (ob 7 0), .int (nI k), .int fr, .int to] (pm c M) Q := by
  refine m_X7_may (lsA := [.ref (ob 7 0), .int (nI k), .int fr, .int to, jk, jk, jk, jk, jk, jk]) rfl (Nat.le_of_ble_eq_true rfl) ?_
  intro X h0 h18 h70 h77 h142 h146 h157 h158
  have e1 : (1 : Int32) - nI k = nI (1 - k) := by rw [show (1 : Int32) = nI 1 from rfl, pk_sub (by omega)]
  have hk1 : 1 - k < 2 := by omega
  have k158 : ∀ (r : Int32) ls, (r = 1 ∧ mayF M k fr to) ∨ (r = 0 ∧ ¬ mayF M k fr to) → X 158 ls [.int r] (pm c M) 0 0 := by
    intro r ls hr
    apply h158
    simp only [B_X7_may_158, o_zret, cats_nil, cats_cons, rf_s, rf_n, isR_r, isR_n, isR_rf, cat_i, cat_l, cat_r, cat_n, cat_rf, unl_i, unl_l, unl_r, unl_n, unl_j, unl_rf, orf_r, orf_n, orf_rf, rf_null, mA_pm, mL_pm, mP_pm, List.length_cons, List.length_nil, List.cons_append, List.nil_append, Nat.reduceAdd, Nat.reduceLeDiff, Nat.reduceLT, Nat.reduceEqDiff, Nat.zero_add, Nat.add_zero, Nat.le_refl, Nat.zero_le, true_and, and_true, true_or, or_true, false_or, or_false, reduceIte]
    exact ⟨by rcases hr with ⟨rfl, -⟩ | ⟨rfl, -⟩ <;> simp, H r hr⟩
  apply h0
  simp only [B_X7_may_0, o_ic, o_il, o_ii, o_is, o_al, o_gf, o_iald, o_ic2, o_zret, nth_1, lset_4, nth_0, nth_4, mV_7_35, al_7, hs.a7, hs.p35, kd_43, ix_43, hs.l43, rm_43, wm_43, ix_7, cats_nil, cats_cons, rf_s, rf_n, isR_r, isR_n, isR_rf, cat_i, cat_l, cat_r, cat_n, cat_rf, unl_i, unl_l, unl_r, unl_n, unl_j, unl_rf, orf_r, orf_n, orf_rf, rf_null, mA_pm, mL_pm, mP_pm, List.length_cons, List.length_nil, List.cons_append, List.nil_append, Nat.reduceAdd, Nat.reduceLeDiff, Nat.reduceLT, Nat.reduceEqDiff, Nat.zero_add, Nat.add_zero, Nat.le_refl, Nat.zero_le, true_and, and_true, true_or, or_true, false_or, or_false, reduceIte, e1, vin hk1, ncl hk1]
  refine ⟨fun q => H 1 (Or.inl ⟨rfl, Or.inl q⟩), fun q => ?_⟩
  have k77 : X 77 [.ref (ob 7 0), .int (nI k), .int fr, .int to, .int (nI (1 - k)), .int (lo3 (M.1 42 k) fr to), .int (hi3 (M.1 42 k) fr to), jk, jk, jk] [.int (goalF M (1 - k))] (pm c M) 0 0 := by
    apply h77
    simp only [B_X7_may_77, o_is, o_al, o_gf, o_il, o_iald, o_m2, o_if, o_ic2, o_ic, lset_7, nth_0, nth_4, nth_7, lset_8, lset_9, nth_1, nth_6, nth_8, mV_7_34, al_7, hs.a7, hs.p34, kd_42, ix_42, hs.l42, rm_42, wm_42, ix_7, mV_7_38, hs.p38, kd_45, ix_45, hs.l45, rm_45, wm_45, cats_nil, cats_cons, rf_s, rf_n, isR_r, isR_n, isR_rf, cat_i, cat_l, cat_r, cat_n, cat_rf, unl_i, unl_l, unl_r, unl_n, unl_j, unl_rf, orf_r, orf_n, orf_rf, rf_null, mA_pm, mL_pm, mP_pm, List.length_cons, List.length_nil, List.cons_append, List.nil_append, Nat.reduceAdd, Nat.reduceLeDiff, Nat.reduceLT, Nat.reduceEqDiff, Nat.zero_add, Nat.add_zero, Nat.le_refl, Nat.zero_le, true_and, and_true, true_or, or_true, false_or, or_false, reduceIte, vin hk1, ncl hk1]
    have z1 : nI k = 0 ↔ k = 0 := by rw [show (0 : Int32) = nI 0 from rfl, nI_eq_iff]
    refine ⟨fun z => ⟨fun z2 => ?_, fun z2 => ?_⟩, fun z => ?_⟩
    · apply h142
      simp only [B_X7_may_142, o_ic, cats_nil, cats_cons, rf_s, rf_n, isR_r, isR_n, isR_rf, cat_i, cat_l, cat_r, cat_n, cat_rf, unl_i, unl_l, unl_r, unl_n, unl_j, unl_rf, orf_r, orf_n, orf_rf, rf_null, mA_pm, mL_pm, mP_pm, List.length_cons, List.length_nil, List.cons_append, List.nil_append, Nat.reduceAdd, Nat.reduceLeDiff, Nat.reduceLT, Nat.reduceEqDiff, Nat.zero_add, Nat.add_zero, Nat.le_refl, Nat.zero_le, true_and, and_true, true_or, or_true, false_or, or_false, reduceIte]
      refine k158 0 _ (Or.inr ⟨rfl, ?_⟩)
      rintro (y | y)
      · exact q y
      · rw [if_pos (z1.mp z)] at y
        exact absurd y (Int32.not_lt.mpr z2)
    · refine k158 1 _ (Or.inl ⟨rfl, Or.inr ?_⟩)
      rw [if_pos (z1.mp z)]
      exact Int32.not_le.mp z2
    · have z3 : ¬ k = 0 := fun y => z (z1.mpr y)
      apply h146
      simp only [B_X7_may_146, o_il, o_ic2, o_ic, nth_5, nth_9, cats_nil, cats_cons, rf_s, rf_n, isR_r, isR_n, isR_rf, cat_i, cat_l, cat_r, cat_n, cat_rf, unl_i, unl_l, unl_r, unl_n, unl_j, unl_rf, orf_r, orf_n, orf_rf, rf_null, mA_pm, mL_pm, mP_pm, List.length_cons, List.length_nil, List.cons_append, List.nil_append, Nat.reduceAdd, Nat.reduceLeDiff, Nat.reduceLT, Nat.reduceEqDiff, Nat.zero_add, Nat.add_zero, Nat.le_refl, Nat.zero_le, true_and, and_true, true_or, or_true, false_or, or_false, reduceIte]
      refine ⟨fun z2 => ?_, fun z2 => ?_⟩
      · apply h157
        simp only [B_X7_may_157, o_ic, cats_nil, cats_cons, rf_s, rf_n, isR_r, isR_n, isR_rf, cat_i, cat_l, cat_r, cat_n, cat_rf, unl_i, unl_l, unl_r, unl_n, unl_j, unl_rf, orf_r, orf_n, orf_rf, rf_null, mA_pm, mL_pm, mP_pm, List.length_cons, List.length_nil, List.cons_append, List.nil_append, Nat.reduceAdd, Nat.reduceLeDiff, Nat.reduceLT, Nat.reduceEqDiff, Nat.zero_add, Nat.add_zero, Nat.le_refl, Nat.zero_le, true_and, and_true, true_or, or_true, false_or, or_false, reduceIte]
        refine k158 0 _ (Or.inr ⟨rfl, ?_⟩)
        rintro (y | y)
        · exact q y
        · rw [if_neg z3] at y
          exact absurd y (Int32.not_lt.mpr z2)
      · refine k158 1 _ (Or.inl ⟨rfl, Or.inr ?_⟩)
        rw [if_neg z3]
        exact Int32.not_le.mp z2
  have hk0 : k < 2 := hk
  apply h18
  simp only [B_X7_may_18, o_al, o_gf, o_il, o_iald, o_m2, o_is, o_bald, o_if, nth_0, nth_1, nth_2, nth_3, lset_5, lset_6, nth_4, mV_7_34, al_7, hs.a7, hs.p34, kd_42, ix_42, hs.l42, rm_42, wm_42, ix_7, mV_7_36, hs.p36, kd_80, ix_80, hs.l80, rm_80, wm_80, mV_7_38, hs.p38, kd_45, ix_45, hs.l45, rm_45, wm_45, cats_nil, cats_cons, rf_s, rf_n, isR_r, isR_n, isR_rf, cat_i, cat_l, cat_r, cat_n, cat_rf, unl_i, unl_l, unl_r, unl_n, unl_j, unl_rf, orf_r, orf_n, orf_rf, rf_null, mA_pm, mL_pm, mP_pm, List.length_cons, List.length_nil, List.cons_append, List.nil_append, Nat.reduceAdd, Nat.reduceLeDiff, Nat.reduceLT, Nat.reduceEqDiff, Nat.zero_add, Nat.add_zero, Nat.le_refl, Nat.zero_le, true_and, and_true, true_or, or_true, false_or, or_false, reduceIte, vin hk1, ncl hk1, vin hk0, ncl hk0]
  unfold goalF at k77
  refine ⟨fun z => ?_, fun z => ?_⟩
  · rw [if_pos z] at k77
    apply h70
    simp only [B_X7_may_70, o_al, o_gf, o_il, o_iald, nth_0, nth_4, mV_7_37, al_7, hs.a7, hs.p37, kd_44, ix_44, hs.l44, rm_44, wm_44, ix_7, cats_nil, cats_cons, rf_s, rf_n, isR_r, isR_n, isR_rf, cat_i, cat_l, cat_r, cat_n, cat_rf, unl_i, unl_l, unl_r, unl_n, unl_j, unl_rf, orf_r, orf_n, orf_rf, rf_null, mA_pm, mL_pm, mP_pm, List.length_cons, List.length_nil, List.cons_append, List.nil_append, Nat.reduceAdd, Nat.reduceLeDiff, Nat.reduceLT, Nat.reduceEqDiff, Nat.zero_add, Nat.add_zero, Nat.le_refl, Nat.zero_le, true_and, and_true, true_or, or_true, false_or, or_false, reduceIte, vin hk1, ncl hk1]
    exact k77
  · rw [if_neg z] at k77
    exact k77
def jobM (M : MD) (k : Nat) (t fr to r br : Int32) : MD := uI (uI (uI (uI (uI (uI M 43 k t) 80 k 0) 44 k fr) 45 k to) 46 k r) 81 k br
theorem sp_takesJob (hs : SKM c) {k r : Nat} (hk : k < 2) (hr : r < 3) (t fr to br : Int32) (hb : br = 0 ∨ br = 1) (H : Q [] (pm c (if br = 0 then jobM M k t fr to (nI r) br else uI (uI (jobM M k t fr to (nI r) br) 36 r 1) 37 r t))) : K_X7_takesJob l D (d + 1) [.ref (ob 7 0), .int (nI k), .int t, .int fr, .int to, .int (nI r), .int br] (pm c M) Q := by
  refine m_X7_takesJob (lsA := [.ref (ob 7 0), .int (nI k), .int t, .int fr, .int to, .int (nI r), .int br]) rfl (Nat.le_of_ble_eq_true rfl) ?_
  intro X h0 h51
  apply h0
  simp only [B_X7_takesJob_0, o_al, o_gf, o_il, o_iast, o_ic, o_bast, o_if, o_vret, nth_0, nth_1, nth_2, nth_3, nth_4, nth_5, nth_6, mV_7_35, al_7, hs.a7, hs.p35, kd_43, ix_43, hs.l43, rm_43, wm_43, ix_7, mV_7_36, hs.p36, kd_80, ix_80, hs.l80, rm_80, wm_80, mV_7_37, hs.p37, kd_44, ix_44, hs.l44, rm_44, wm_44, mV_7_38, hs.p38, kd_45, ix_45, hs.l45, rm_45, wm_45, mV_7_39, hs.p39, kd_46, ix_46, hs.l46, rm_46, wm_46, mV_7_40, hs.p40, kd_81, ix_81, hs.l81, rm_81, wm_81, cats_nil, cats_cons, rf_s, rf_n, isR_r, isR_n, isR_rf, cat_i, cat_l, cat_r, cat_n, cat_rf, unl_i, unl_l, unl_r, unl_n, unl_j, unl_rf, orf_r, orf_n, orf_rf, rf_null, mA_pm, mL_pm, mP_pm, List.length_cons, List.length_nil, List.cons_append, List.nil_append, Nat.reduceAdd, Nat.reduceLeDiff, Nat.reduceLT, Nat.reduceEqDiff, Nat.zero_add, Nat.add_zero, Nat.le_refl, Nat.zero_le, true_and, and_true, true_or, or_true, false_or, or_false, reduceIte, vin hk, ncl hk, vin hr, ncl hr]
  refine ⟨hb, fun q => ?_, fun q => ?_⟩
  · rw [if_pos q] at H
    exact H
  · rw [if_neg q] at H
    apply h51
    simp only [B_X7_takesJob_51, o_al, o_gf, o_il, o_ic, o_iast, o_vret, nth_0, nth_5, nth_2, mV_7_28, al_7, hs.a7, hs.p28, kd_36, ix_36, hs.l36, rm_36, wm_36, ix_7, mV_7_29, hs.p29, kd_37, ix_37, hs.l37, rm_37, wm_37, cats_nil, cats_cons, rf_s, rf_n, isR_r, isR_n, isR_rf, cat_i, cat_l, cat_r, cat_n, cat_rf, unl_i, unl_l, unl_r, unl_n, unl_j, unl_rf, orf_r, orf_n, orf_rf, rf_null, mA_pm, mL_pm, mP_pm, List.length_cons, List.length_nil, List.cons_append, List.nil_append, Nat.reduceAdd, Nat.reduceLeDiff, Nat.reduceLT, Nat.reduceEqDiff, Nat.zero_add, Nat.add_zero, Nat.le_refl, Nat.zero_le, true_and, and_true, true_or, or_true, false_or, or_false, reduceIte, vin hr, ncl hr]
    exact H
/-- RESULT -/
def sl (f : Nat → Int64) (a : Nat) : Nat → Int64
  | 0 => 0
  | n + 1 => sl f a n + f (a + n)
theorem sp_results (hs : SKM c) {k t f g : Nat} (hn : k < 150) (ht : t < 12) (hnt : M.1 26 k = nI t) (hf : fromF M k = nI f) (hg : toF M k = nI g) (hfg : f ≤ g) (hg60 : g < 60) (H : ∀ r M', (M.1 25 k = 2 ∧ r = M.2 91 (60 * t + f) ∧ M' = uJ M 91 (60 * t + f) (cutF (M.1 21 t) (M.1 28 k).toInt64)) ∨ (¬ M.1 25 k = 2 ∧ r = sl (M.2 91) (60 * t + f) (g + 1 - f) ∧ M' = M) → Q [.long r] (pm c M')) : K_X7_results l D (d + 2) [.ref (ob 7 0), .int (nI k)] (pm c M) Q := by
  refine m_X7_results (lsA := [.ref (ob 7 0), .int (nI k), jk, jk, jk, jk, jk]) rfl (Nat.le_of_ble_eq_true rfl) ?_
  intro X h0 h61 h67 h100
  have e60 : ∀ i, (60 : Int32) * nI t + nI i = nI (60 * t + i) := fun i => by rw [show (60 : Int32) = nI 60 from rfl, pk_mul, nI_add]
  have hf2 : 60 * t + f < 720 := by omega
  apply h0
  simp only [B_X7_results_0, o_al, o_gf, o_il, o_iald, o_is, o_ic, o_ii, o_ic2, o_lald, o_ls, o_i2l, o_last, o_ll, o_lret, nth_0, nth_1, lset_2, nth_2, lset_3, nth_3, lsq_4, nth_4, opV_1, opS_2, mV_7_13, al_7, hs.a7, hs.p13, kd_26, ix_26, hs.l26, rm_26, wm_26, ix_7, mV_7_12, hs.p12, kd_25, ix_25, hs.l25, rm_25, wm_25, mV_7_7, hs.p7, kd_91, ix_91, hs.l91, rm_91, wm_91, mV_7_3, hs.p3, kd_21, ix_21, hs.l21, rm_21, wm_21, mV_7_15, hs.p15, kd_28, ix_28, hs.l28, rm_28, wm_28, cats_nil, cats_cons, rf_s, rf_n, isR_r, isR_n, isR_rf, cat_i, cat_l, cat_r, cat_n, cat_rf, unl_i, unl_l, unl_r, unl_n, unl_j, unl_rf, orf_r, orf_n, orf_rf, rf_null, mA_pm, mL_pm, mP_pm, List.length_cons, List.length_nil, List.cons_append, List.nil_append, Nat.reduceAdd, Nat.reduceLeDiff, Nat.reduceLT, Nat.reduceEqDiff, Nat.zero_add, Nat.add_zero, Nat.le_refl, Nat.zero_le, true_and, and_true, true_or, or_true, false_or, or_false, reduceIte, vin hn, ncl hn, hnt]
  refine sp_fromOf hs hn ?_
  simp only [o_al, o_gf, o_il, o_iald, o_is, o_ic, o_ii, o_ic2, o_lald, o_ls, o_i2l, o_last, o_ll, o_lret, nth_0, nth_1, lset_2, nth_2, lset_3, nth_3, lsq_4, nth_4, opV_1, opS_2, mV_7_13, al_7, hs.a7, hs.p13, kd_26, ix_26, hs.l26, rm_26, wm_26, ix_7, mV_7_12, hs.p12, kd_25, ix_25, hs.l25, rm_25, wm_25, mV_7_7, hs.p7, kd_91, ix_91, hs.l91, rm_91, wm_91, mV_7_3, hs.p3, kd_21, ix_21, hs.l21, rm_21, wm_21, mV_7_15, hs.p15, kd_28, ix_28, hs.l28, rm_28, wm_28, cats_nil, cats_cons, rf_s, rf_n, isR_r, isR_n, isR_rf, cat_i, cat_l, cat_r, cat_n, cat_rf, unl_i, unl_l, unl_r, unl_n, unl_j, unl_rf, orf_r, orf_n, orf_rf, rf_null, mA_pm, mL_pm, mP_pm, List.length_cons, List.length_nil, List.cons_append, List.nil_append, Nat.reduceAdd, Nat.reduceLeDiff, Nat.reduceLT, Nat.reduceEqDiff, Nat.zero_add, Nat.add_zero, Nat.le_refl, Nat.zero_le, true_and, and_true, true_or, or_true, false_or, or_false, reduceIte, vin hn, ncl hn, hnt, hf, e60, vin hf2, ncl hf2, vin ht, ncl ht]
  refine ⟨fun q => ?_, fun q => ?_⟩
  · refine sp_cut _ _ _ ?_
    simp only [o_al, o_gf, o_il, o_iald, o_is, o_ic, o_ii, o_ic2, o_lald, o_ls, o_i2l, o_last, o_ll, o_lret, nth_0, nth_1, lset_2, nth_2, lset_3, nth_3, lsq_4, nth_4, opV_1, opS_2, mV_7_13, al_7, hs.a7, hs.p13, kd_26, ix_26, hs.l26, rm_26, wm_26, ix_7, mV_7_12, hs.p12, kd_25, ix_25, hs.l25, rm_25, wm_25, mV_7_7, hs.p7, kd_91, ix_91, hs.l91, rm_91, wm_91, mV_7_3, hs.p3, kd_21, ix_21, hs.l21, rm_21, wm_21, mV_7_15, hs.p15, kd_28, ix_28, hs.l28, rm_28, wm_28, cats_nil, cats_cons, rf_s, rf_n, isR_r, isR_n, isR_rf, cat_i, cat_l, cat_r, cat_n, cat_rf, unl_i, unl_l, unl_r, unl_n, unl_j, unl_rf, orf_r, orf_n, orf_rf, rf_null, mA_pm, mL_pm, mP_pm, List.length_cons, List.length_nil, List.cons_append, List.nil_append, Nat.reduceAdd, Nat.reduceLeDiff, Nat.reduceLT, Nat.reduceEqDiff, Nat.zero_add, Nat.add_zero, Nat.le_refl, Nat.zero_le, true_and, and_true, true_or, or_true, false_or, or_false, reduceIte, vin hf2, ncl hf2]
    exact H _ _ (Or.inl ⟨q, rfl, rfl⟩)
  · have loop : ∀ m i, i + m = g + 1 - f → X 67 [.ref (ob 7 0), .int (nI k), .int (nI t), .int (nI (60 * t + f)), .long (sl (M.2 91) (60 * t + f) i), jk, .int (nI (60 * t + f + i))] [] (pm c M) 0 0 := by
      intro m
      induction m with
      | zero =>
        intro i hi
        apply h67
        simp only [B_X7_results_67, o_il, o_ic, o_ii, o_al, o_ic2, o_ll, o_gf, o_lald, o_jj, o_ls, o_inc, nth_6, nth_2, nth_0, nth_1, nth_4, lsq_4, lset_6, opV_1, mV_7_7, al_7, hs.a7, hs.p7, kd_91, ix_91, hs.l91, rm_91, wm_91, ix_7, cats_nil, cats_cons, rf_s, rf_n, isR_r, isR_n, isR_rf, cat_i, cat_l, cat_r, cat_n, cat_rf, unl_i, unl_l, unl_r, unl_n, unl_j, unl_rf, orf_r, orf_n, orf_rf, rf_null, mA_pm, mL_pm, mP_pm, List.length_cons, List.length_nil, List.cons_append, List.nil_append, Nat.reduceAdd, Nat.reduceLeDiff, Nat.reduceLT, Nat.reduceEqDiff, Nat.zero_add, Nat.add_zero, Nat.le_refl, Nat.zero_le, true_and, and_true, true_or, or_true, false_or, or_false, reduceIte]
        refine sp_toOf hs hn ht hnt ?_
        simp only [o_il, o_ic, o_ii, o_al, o_ic2, o_ll, o_gf, o_lald, o_jj, o_ls, o_inc, nth_6, nth_2, nth_0, nth_1, nth_4, lsq_4, lset_6, opV_1, mV_7_7, al_7, hs.a7, hs.p7, kd_91, ix_91, hs.l91, rm_91, wm_91, ix_7, cats_nil, cats_cons, rf_s, rf_n, isR_r, isR_n, isR_rf, cat_i, cat_l, cat_r, cat_n, cat_rf, unl_i, unl_l, unl_r, unl_n, unl_j, unl_rf, orf_r, orf_n, orf_rf, rf_null, mA_pm, mL_pm, mP_pm, List.length_cons, List.length_nil, List.cons_append, List.nil_append, Nat.reduceAdd, Nat.reduceLeDiff, Nat.reduceLT, Nat.reduceEqDiff, Nat.zero_add, Nat.add_zero, Nat.le_refl, Nat.zero_le, true_and, and_true, true_or, or_true, false_or, or_false, reduceIte, hg, e60]
        refine ⟨fun _ => ?_, fun z => absurd (by rw [nI_lt_iff]; omega) z⟩
        apply h100
        simp only [B_X7_results_100, o_ll, o_lret, nth_4, cats_nil, cats_cons, rf_s, rf_n, isR_r, isR_n, isR_rf, cat_i, cat_l, cat_r, cat_n, cat_rf, unl_i, unl_l, unl_r, unl_n, unl_j, unl_rf, orf_r, orf_n, orf_rf, rf_null, mA_pm, mL_pm, mP_pm, List.length_cons, List.length_nil, List.cons_append, List.nil_append, Nat.reduceAdd, Nat.reduceLeDiff, Nat.reduceLT, Nat.reduceEqDiff, Nat.zero_add, Nat.add_zero, Nat.le_refl, Nat.zero_le, true_and, and_true, true_or, or_true, false_or, or_false, reduceIte]
        rw [show i = g + 1 - f by omega]
        exact H _ _ (Or.inr ⟨q, rfl, rfl⟩)
      | succ m ih =>
        intro i hi
        have hi2 : 60 * t + f + i < 720 := by omega
        apply h67
        simp only [B_X7_results_67, o_il, o_ic, o_ii, o_al, o_ic2, o_ll, o_gf, o_lald, o_jj, o_ls, o_inc, nth_6, nth_2, nth_0, nth_1, nth_4, lsq_4, lset_6, opV_1, mV_7_7, al_7, hs.a7, hs.p7, kd_91, ix_91, hs.l91, rm_91, wm_91, ix_7, cats_nil, cats_cons, rf_s, rf_n, isR_r, isR_n, isR_rf, cat_i, cat_l, cat_r, cat_n, cat_rf, unl_i, unl_l, unl_r, unl_n, unl_j, unl_rf, orf_r, orf_n, orf_rf, rf_null, mA_pm, mL_pm, mP_pm, List.length_cons, List.length_nil, List.cons_append, List.nil_append, Nat.reduceAdd, Nat.reduceLeDiff, Nat.reduceLT, Nat.reduceEqDiff, Nat.zero_add, Nat.add_zero, Nat.le_refl, Nat.zero_le, true_and, and_true, true_or, or_true, false_or, or_false, reduceIte]
        refine sp_toOf hs hn ht hnt ?_
        simp only [o_il, o_ic, o_ii, o_al, o_ic2, o_ll, o_gf, o_lald, o_jj, o_ls, o_inc, nth_6, nth_2, nth_0, nth_1, nth_4, lsq_4, lset_6, opV_1, mV_7_7, al_7, hs.a7, hs.p7, kd_91, ix_91, hs.l91, rm_91, wm_91, ix_7, cats_nil, cats_cons, rf_s, rf_n, isR_r, isR_n, isR_rf, cat_i, cat_l, cat_r, cat_n, cat_rf, unl_i, unl_l, unl_r, unl_n, unl_j, unl_rf, orf_r, orf_n, orf_rf, rf_null, mA_pm, mL_pm, mP_pm, List.length_cons, List.length_nil, List.cons_append, List.nil_append, Nat.reduceAdd, Nat.reduceLeDiff, Nat.reduceLT, Nat.reduceEqDiff, Nat.zero_add, Nat.add_zero, Nat.le_refl, Nat.zero_le, true_and, and_true, true_or, or_true, false_or, or_false, reduceIte, hg, e60, vin hi2, ncl hi2, nI_1]
        refine ⟨fun z => absurd z (by rw [nI_lt_iff]; omega), fun _ => ?_⟩
        exact ih (i + 1) (by omega)
    apply h61
    simp only [B_X7_results_61, o_lc, o_ls, o_il, o_is, lsq_4, nth_3, lset_6, cats_nil, cats_cons, rf_s, rf_n, isR_r, isR_n, isR_rf, cat_i, cat_l, cat_r, cat_n, cat_rf, unl_i, unl_l, unl_r, unl_n, unl_j, unl_rf, orf_r, orf_n, orf_rf, rf_null, mA_pm, mL_pm, mP_pm, List.length_cons, List.length_nil, List.cons_append, List.nil_append, Nat.reduceAdd, Nat.reduceLeDiff, Nat.reduceLT, Nat.reduceEqDiff, Nat.zero_add, Nat.add_zero, Nat.le_refl, Nat.zero_le, true_and, and_true, true_or, or_true, false_or, or_false, reduceIte]
    exact loop (g + 1 - f) 0 (by omega)
end ZM5
