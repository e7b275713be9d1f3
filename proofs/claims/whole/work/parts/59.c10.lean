/-! The class: the shelf -/
def FRJ (w : Nat → Nat → Nat → Prop) (c c' : HP) : Prop := c'.1 = c.1 ∧ c'.2.1 = c.2.1 ∧ c'.2.2.2.2 = c.2.2.2.2 ∧ (∀ k i j, ¬ w k i j → mI c' k i j = mI c k i j) ∧ ∀ k i j, ¬ w k i j → mJ c' k i j = mJ c k i j
theorem FRJ.rf (w : Nat → Nat → Nat → Prop) (c : HP) : FRJ w c c := ⟨rfl, rfl, rfl, fun _ _ _ _ => rfl, fun _ _ _ _ => rfl⟩
theorem FRJ.w {w : Nat → Nat → Nat → Prop} {c c1 : HP} (h : FRJ w c c1) {k i j : Nat} (x : Int32) (g : w k i j) : FRJ w c (wI c1 k i j x) := ⟨h.1, h.2.1, h.2.2.1, fun a b e q => by
  rw [mI_wI, if_neg (fun z => q (by rw [z.1, z.2.1, z.2.2]; exact g))]
  exact h.2.2.2.1 a b e q, h.2.2.2.2⟩
theorem FRJ.v {w : Nat → Nat → Nat → Prop} {c c1 : HP} (h : FRJ w c c1) {k i j : Nat} (x : Int64) (g : w k i j) : FRJ w c (wJ c1 k i j x) := ⟨h.1, h.2.1, h.2.2.1, h.2.2.2.1, fun a b e q => by
  rw [mJ_wJ, if_neg (fun z => q (by rw [z.1, z.2.1, z.2.2]; exact g))]
  exact h.2.2.2.2 a b e q⟩
theorem FRJ.sk {w : Nat → Nat → Nat → Prop} {c c1 : HP} (h : FRJ w c c1) (g : SKF c) : SKF c1 := by
  unfold SKF at g ⊢
  rw [h.1, h.2.1, h.2.2.1]
  exact g
theorem FRJ.I {w : Nat → Nat → Nat → Prop} {c c1 : HP} (h : FRJ w c c1) {k i j : Nat} (q : ¬ w k i j) : mI c1 k i j = mI c k i j := h.2.2.2.1 k i j q
theorem FRJ.J {w : Nat → Nat → Nat → Prop} {c c1 : HP} (h : FRJ w c c1) {k i j : Nat} (q : ¬ w k i j) : mJ c1 k i j = mJ c k i j := h.2.2.2.2 k i j q
def wY : Nat → Nat → Nat → Prop := fun k i j => j = 0 ∧ (k = 18 ∨ k = 88 ∨ (k = 4 ∧ (i = 6 ∨ i = 7)))
/-- the items of the shelf -/
def SHD (c : HP) (n : Nat) (sz ct : Nat → Nat) : Prop := n ≤ 8 ∧ mI c 4 4 0 = nI n ∧ mI c 4 5 0 = nI (tsum ct n) ∧ ∀ i, i < n → mI c 16 i 0 = nI (sz i) ∧ sz i ≤ 50 ∧ mI c 17 i 0 = nI (ct i) ∧ ct i ≤ 1000
theorem SHD.fr {c c1 : HP} {n : Nat} {sz ct : Nat → Nat} (h : SHD c n sz ct) (g : FRJ wY c c1) : SHD c1 n sz ct := by
  obtain ⟨h1, h2, h3, h4⟩ := h
  refine ⟨h1, by rw [g.I (fun w => by have := w.2; omega)]; exact h2, by rw [g.I (fun w => by have := w.2; omega)]; exact h3, fun i hi => ?_⟩
  rw [g.I (fun w => by have := w.2; omega), g.I (fun w => by have := w.2; omega)]
  exact h4 i hi
def RS (c : HP) (n : Nat) (sz ct : Nat → Nat) (u : Nat) : Prop := mJ c 88 u 0 = lN (LV n sz ct (lft u n) u).1
def BL (x : Option (Nat × List Nat)) : Int64 := match x with
  | none => 9223372036854775807
  | some x => lN (x.1 * 8 + x.2.headD 0)
theorem cnl_hd {n : Nat} {sz ct : Nat → Nat} {r u i : Nat} {x : Nat × List Nat} (hx : fm (cnl n sz ct r u) i = some x) : ∃ j, j < i ∧ u.testBit j = false ∧ x = (stepL n sz ct u j + (LV n sz ct r (u + 2 ^ j)).1, j :: (LV n sz ct r (u + 2 ^ j)).2) := by
  obtain ⟨j, hj, hc⟩ := fm_mem hx
  unfold cnl at hc
  split at hc
  · cases hc
  · rename_i hb
    cases hc
    exact ⟨j, hj, by simpa using hb, rfl⟩
theorem lg_eq0 {a b : Int64} : (lg_cmp a b = 0) = (a = b) := by
  unfold lg_cmp
  refine propext ⟨fun h => ?_, fun h => ?_⟩
  · split at h
    · exact absurd h (by decide)
    · split at h
      · assumption
      · exact absurd h (by decide)
  · rw [h, if_neg (fun z => Int64.lt_irrefl z), if_pos rfl]
section ZC10
variable {l : Launch} {D : DD} {d : Nat} {c : HP} {M : MD} {Q : List Value → HP → Prop}
theorem sp_countsOf (hc : SKF c) {n : Nat} {sz ct : Nat → Nat} (hS : SHD c n sz ct) {u : Nat} (hu : u < 256) (H : Q [.int (nI (csum ct u n))] (pm c M)) : K_X4_countsOf l D (d + 2) [.ref (ob 4 0), .int (nI u)] (pm c M) Q := by
  refine m_X4_countsOf (lsA := [.ref (ob 4 0), .int (nI u), jk, jk]) rfl (Nat.le_of_ble_eq_true rfl) ?_
  intro X h0 h4 h31 h37
  obtain ⟨hn, h44, h45, hA⟩ := hS
  have loop : ∀ m i, i + m = n → X 4 [.ref (ob 4 0), .int (nI u), .int (nI (csum ct u i)), .int (nI i)] [] (pm c M) 0 0 := by
    intro m
    induction m with
    | zero =>
      intro i hi
      obtain rfl : i = n := by omega
      apply h4
      simp only [B_X4_countsOf_4, o_il, o_al, o_gf, o_ic2, o_ii, o_ic, o_if, o_is, nth_3, nth_0, nth_1, nth_2, lset_2, opS_2, mV_4_4, al_4, cI_4, hc.a4, ix_4, mV_4_1, hc.p4_1, kd_17, ix_17, hc.l17, cI_17, cw_17, cJ_17, cv_17, cats_nil, cats_cons, rf_s, rf_n, isR_r, isR_n, isR_rf, cat_i, cat_l, cat_r, cat_n, cat_rf, unl_i, unl_l, unl_r, unl_n, unl_j, unl_rf, orf_r, orf_n, orf_rf, rf_null, mA_pm, mL_pm, mP_pm, List.length_cons, List.length_nil, List.cons_append, List.nil_append, Nat.reduceAdd, Nat.reduceLeDiff, Nat.reduceLT, Nat.reduceEqDiff, Nat.zero_add, Nat.add_zero, Nat.le_refl, Nat.zero_le, true_and, and_true, true_or, or_true, false_or, or_false, reduceIte, h44]
      refine ⟨fun _ => ?_, fun z => absurd (nI_le (by omega) (by omega)) z⟩
      apply h37
      simp only [B_X4_countsOf_37, o_il, o_iret, nth_2, cats_nil, cats_cons, rf_s, rf_n, isR_r, isR_n, isR_rf, cat_i, cat_l, cat_r, cat_n, cat_rf, unl_i, unl_l, unl_r, unl_n, unl_j, unl_rf, orf_r, orf_n, orf_rf, rf_null, mA_pm, mL_pm, mP_pm, List.length_cons, List.length_nil, List.cons_append, List.nil_append, Nat.reduceAdd, Nat.reduceLeDiff, Nat.reduceLT, Nat.reduceEqDiff, Nat.zero_add, Nat.add_zero, Nat.le_refl, Nat.zero_le, true_and, and_true, true_or, or_true, false_or, or_false, reduceIte]
      exact H
    | succ m ih =>
      intro i hi
      have hi8 : i < 8 := by omega
      have k31 : X 31 [.ref (ob 4 0), .int (nI u), .int (nI (csum ct u (i + 1))), .int (nI i)] [] (pm c M) 0 0 := by
        apply h31
        simp only [B_X4_countsOf_31, o_inc, nth_3, lset_3, cats_nil, cats_cons, rf_s, rf_n, isR_r, isR_n, isR_rf, cat_i, cat_l, cat_r, cat_n, cat_rf, unl_i, unl_l, unl_r, unl_n, unl_j, unl_rf, orf_r, orf_n, orf_rf, rf_null, mA_pm, mL_pm, mP_pm, List.length_cons, List.length_nil, List.cons_append, List.nil_append, Nat.reduceAdd, Nat.reduceLeDiff, Nat.reduceLT, Nat.reduceEqDiff, Nat.zero_add, Nat.add_zero, Nat.le_refl, Nat.zero_le, true_and, and_true, true_or, or_true, false_or, or_false, reduceIte, nI_1]
        exact ih (i + 1) (by omega)
      apply h4
      simp only [B_X4_countsOf_4, o_il, o_al, o_gf, o_ic2, o_ii, o_ic, o_if, o_is, nth_3, nth_0, nth_1, nth_2, lset_2, opS_2, mV_4_4, al_4, cI_4, hc.a4, ix_4, mV_4_1, hc.p4_1, kd_17, ix_17, hc.l17, cI_17, cw_17, cJ_17, cv_17, cats_nil, cats_cons, rf_s, rf_n, isR_r, isR_n, isR_rf, cat_i, cat_l, cat_r, cat_n, cat_rf, unl_i, unl_l, unl_r, unl_n, unl_j, unl_rf, orf_r, orf_n, orf_rf, rf_null, mA_pm, mL_pm, mP_pm, List.length_cons, List.length_nil, List.cons_append, List.nil_append, Nat.reduceAdd, Nat.reduceLeDiff, Nat.reduceLT, Nat.reduceEqDiff, Nat.zero_add, Nat.add_zero, Nat.le_refl, Nat.zero_le, true_and, and_true, true_or, or_true, false_or, or_false, reduceIte, h44, bit_z u hu i hi8]
      refine ⟨fun z => absurd z (by rw [nI_le_iff]; omega), fun _ => ⟨fun z => ?_, fun z => ?_⟩⟩
      · have e : csum ct u (i + 1) = csum ct u i := by
          show csum ct u i + (if u.testBit i = true then _ else _) = _
          rw [z]
          rfl
        rw [e] at k31
        exact k31
      · have hb : u.testBit i = true := by simpa using z
        have e : csum ct u (i + 1) = csum ct u i + ct i := by
          show csum ct u i + (if u.testBit i = true then _ else _) = _
          rw [if_pos hb]
        refine sp_at (n := 8) (by decide) rfl hc.l17 (by omega) hi8 ?_
        rw [(hA i (by omega)).2.2.1]
        simp only [o_il, o_al, o_gf, o_ic2, o_ii, o_ic, o_if, o_is, nth_3, nth_0, nth_1, nth_2, lset_2, opS_2, mV_4_4, al_4, cI_4, hc.a4, ix_4, mV_4_1, hc.p4_1, kd_17, ix_17, hc.l17, cI_17, cw_17, cJ_17, cv_17, cats_nil, cats_cons, rf_s, rf_n, isR_r, isR_n, isR_rf, cat_i, cat_l, cat_r, cat_n, cat_rf, unl_i, unl_l, unl_r, unl_n, unl_j, unl_rf, orf_r, orf_n, orf_rf, rf_null, mA_pm, mL_pm, mP_pm, List.length_cons, List.length_nil, List.cons_append, List.nil_append, Nat.reduceAdd, Nat.reduceLeDiff, Nat.reduceLT, Nat.reduceEqDiff, Nat.zero_add, Nat.add_zero, Nat.le_refl, Nat.zero_le, true_and, and_true, true_or, or_true, false_or, or_false, reduceIte, nI_add]
        rw [e] at k31
        exact k31
  apply h0
  simp only [B_X4_countsOf_0, o_ic, o_is, lset_2, lset_3, cats_nil, cats_cons, rf_s, rf_n, isR_r, isR_n, isR_rf, cat_i, cat_l, cat_r, cat_n, cat_rf, unl_i, unl_l, unl_r, unl_n, unl_j, unl_rf, orf_r, orf_n, orf_rf, rf_null, mA_pm, mL_pm, mP_pm, List.length_cons, List.length_nil, List.cons_append, List.nil_append, Nat.reduceAdd, Nat.reduceLeDiff, Nat.reduceLT, Nat.reduceEqDiff, Nat.zero_add, Nat.add_zero, Nat.le_refl, Nat.zero_le, true_and, and_true, true_or, or_true, false_or, or_false, reduceIte]
  exact loop n 0 (by omega)
set_option maxHeartbeats 1000000 in
theorem sp_best4 (hc : SKF c) {n : Nat} {sz ct : Nat → Nat} (hS : SHD c n sz ct) {u : Nat} (hu : u < 2 ^ n) (hO : ∀ i, i < n → u.testBit i = false → RS c n sz ct (u + 2 ^ i)) (H : ∀ r, ((lft u n = 0 ∧ r = 0) ∨ (∃ k x, lft u n = k + 1 ∧ fm (cnl n sz ct k u) n = some x ∧ r = x.1 * 8 + x.2.headD 0 ∧ x.1 ≤ 32000000000 ∧ x.2.headD 0 < n)) → Q [.long (lN r)] (pm c M)) : K_X4_best l D (d + 3) [.ref (ob 4 0), .int (nI u)] (pm c M) Q := by
  refine m_X4_best (lsA := [.ref (ob 4 0), .int (nI u), jk, jk, jk, jk, jk, jk, jk, jk, jk]) rfl (Nat.le_of_ble_eq_true rfl) ?_
  intro X h0 h13 h100 h106 h118 h119
  have hS' := hS
  obtain ⟨hn, h44, h45, hA⟩ := hS
  have hsz : ∀ i, i < n → sz i ≤ 50 := fun i hi => (hA i hi).2.1
  have hct : ∀ i, i < n → ct i ≤ 1000 := fun i hi => (hA i hi).2.2.2
  have hp8 : 2 ^ n ≤ 256 := by have := Nat.pow_le_pow_right (show 0 < 2 by omega) hn; omega
  have hu8 : u < 256 := by omega
  obtain ⟨L, hL⟩ : ∃ L, L = lft u n := ⟨_, rfl⟩
  have hL8 : L ≤ 8 := by
    rw [hL]
    have : ∀ m, lft u m ≤ m := by
      intro m
      induction m with
      | zero => exact Nat.le_refl _
      | succ m ih => show lft u m + _ ≤ m + 1; split <;> omega
    exact Nat.le_trans (this n) hn
  have hcb : ∀ k j, k < 8 → u.testBit j = false → j < n → stepL n sz ct u j + (LV n sz ct k (u + 2 ^ j)).1 ≤ 32000000000 := by
    intro k j hk hb hj
    have h1 := stepL_le (u := u) hn hb hj hsz hct
    have h2 := LV_le hn hsz hct k (u + 2 ^ j)
    omega
  have k13 : ∀ k, L = k + 1 → ∀ m i w6 w7 w8 w9 w10, i + m = n → X 13 [.ref (ob 4 0), .int (nI u), .int (nI (csum ct u n)), .long (BL (fm (cnl n sz ct k u) i)), jk, .int (nI i), w6, w7, w8, w9, w10] [] (pm c M) 0 0 := by
    intro k hk m
    induction m with
    | zero =>
      intro i w6 w7 w8 w9 w10 hi
      obtain rfl : i = n := by omega
      obtain ⟨x, hx⟩ := fm_someL (sz := sz) (ct := ct) (show lft u i = k + 1 by omega)
      obtain ⟨j, hj, hb, rfl⟩ := cnl_hd hx
      have hcj := hcb k j (by omega) hb hj
      apply h13
      simp only [B_X4_best_13, o_il, o_al, o_gf, o_ic2, o_ic, o_ii, o_is, o_if, o_i2l, o_ls, o_ll, o_jj, o_lc, o_ml, nth_5, nth_0, lset_6, nth_1, nth_6, nth_2, lsq_7, nth_7, lsq_9, nth_3, nth_9, lsq_3, opS_2, mV_4_4, al_4, cI_4, hc.a4, ix_4, mV_4_1, hc.p4_1, kd_17, ix_17, hc.l17, cI_17, cw_17, cJ_17, cv_17, mV_4_0, hc.p4_0, kd_16, ix_16, hc.l16, cI_16, cw_16, cJ_16, cv_16, mV_4_5, mV_4_3, hc.p4_3, kd_88, ix_88, hc.l88, cI_88, cw_88, cJ_88, cv_88, cats_nil, cats_cons, rf_s, rf_n, isR_r, isR_n, isR_rf, cat_i, cat_l, cat_r, cat_n, cat_rf, unl_i, unl_l, unl_r, unl_n, unl_j, unl_rf, orf_r, orf_n, orf_rf, rf_null, mA_pm, mL_pm, mP_pm, List.length_cons, List.length_nil, List.cons_append, List.nil_append, Nat.reduceAdd, Nat.reduceLeDiff, Nat.reduceLT, Nat.reduceEqDiff, Nat.zero_add, Nat.add_zero, Nat.le_refl, Nat.zero_le, true_and, and_true, true_or, or_true, false_or, or_false, reduceIte, h44]
      refine ⟨fun _ => ?_, fun z => absurd (nI_le (by omega) (by omega)) z⟩
      apply h106
      simp only [B_X4_best_106, o_ll, o_lc, o_lcmp, o_if, nth_3, cats_nil, cats_cons, rf_s, rf_n, isR_r, isR_n, isR_rf, cat_i, cat_l, cat_r, cat_n, cat_rf, unl_i, unl_l, unl_r, unl_n, unl_j, unl_rf, orf_r, orf_n, orf_rf, rf_null, mA_pm, mL_pm, mP_pm, List.length_cons, List.length_nil, List.cons_append, List.nil_append, Nat.reduceAdd, Nat.reduceLeDiff, Nat.reduceLT, Nat.reduceEqDiff, Nat.zero_add, Nat.add_zero, Nat.le_refl, Nat.zero_le, true_and, and_true, true_or, or_true, false_or, or_false, reduceIte, lg_eq0]
      rw [hx]
      refine ⟨fun z => ?_, fun _ => ?_⟩
      · have z' : lN ((stepL i sz ct u j + (LV i sz ct k (u + 2 ^ j)).1) * 8 + j) = lN 9223372036854775807 := z
        rw [pk_lEQ (by omega) (by omega)] at z'
        omega
      · apply h118
        simp only [B_X4_best_118, o_ll, nth_3, cats_nil, cats_cons, rf_s, rf_n, isR_r, isR_n, isR_rf, cat_i, cat_l, cat_r, cat_n, cat_rf, unl_i, unl_l, unl_r, unl_n, unl_j, unl_rf, orf_r, orf_n, orf_rf, rf_null, mA_pm, mL_pm, mP_pm, List.length_cons, List.length_nil, List.cons_append, List.nil_append, Nat.reduceAdd, Nat.reduceLeDiff, Nat.reduceLT, Nat.reduceEqDiff, Nat.zero_add, Nat.add_zero, Nat.le_refl, Nat.zero_le, true_and, and_true, true_or, or_true, false_or, or_false, reduceIte]
        apply h119
        simp only [B_X4_best_119, o_lret, cats_nil, cats_cons, rf_s, rf_n, isR_r, isR_n, isR_rf, cat_i, cat_l, cat_r, cat_n, cat_rf, unl_i, unl_l, unl_r, unl_n, unl_j, unl_rf, orf_r, orf_n, orf_rf, rf_null, mA_pm, mL_pm, mP_pm, List.length_cons, List.length_nil, List.cons_append, List.nil_append, Nat.reduceAdd, Nat.reduceLeDiff, Nat.reduceLT, Nat.reduceEqDiff, Nat.zero_add, Nat.add_zero, Nat.le_refl, Nat.zero_le, true_and, and_true, true_or, or_true, false_or, or_false, reduceIte]
        exact H _ (Or.inr ⟨k, _, by omega, hx, rfl, hcj, hj⟩)
    | succ m ih =>
      intro i w6 w7 w8 w9 w10 hi
      have hin : i < n := by omega
      have hi8 : i < 8 := by omega
      have k100 : ∀ b w6 w7 w8 w9 w10, b = BL (fm (cnl n sz ct k u) (i + 1)) → X 100 [.ref (ob 4 0), .int (nI u), .int (nI (csum ct u n)), .long b, jk, .int (nI i), w6, w7, w8, w9, w10] [] (pm c M) 0 0 := by
        intro b w6 w7 w8 w9 w10 e
        apply h100
        simp only [B_X4_best_100, o_inc, nth_5, lset_5, cats_nil, cats_cons, rf_s, rf_n, isR_r, isR_n, isR_rf, cat_i, cat_l, cat_r, cat_n, cat_rf, unl_i, unl_l, unl_r, unl_n, unl_j, unl_rf, orf_r, orf_n, orf_rf, rf_null, mA_pm, mL_pm, mP_pm, List.length_cons, List.length_nil, List.cons_append, List.nil_append, Nat.reduceAdd, Nat.reduceLeDiff, Nat.reduceLT, Nat.reduceEqDiff, Nat.zero_add, Nat.add_zero, Nat.le_refl, Nat.zero_le, true_and, and_true, true_or, or_true, false_or, or_false, reduceIte, nI_1]
        rw [e]
        exact ih (i + 1) w6 w7 w8 w9 w10 (by omega)
      apply h13
      simp only [B_X4_best_13, o_il, o_al, o_gf, o_ic2, o_ic, o_ii, o_is, o_if, o_i2l, o_ls, o_ll, o_jj, o_lc, o_ml, nth_5, nth_0, lset_6, nth_1, nth_6, nth_2, lsq_7, nth_7, lsq_9, nth_3, nth_9, lsq_3, opS_2, mV_4_4, al_4, cI_4, hc.a4, ix_4, mV_4_1, hc.p4_1, kd_17, ix_17, hc.l17, cI_17, cw_17, cJ_17, cv_17, mV_4_0, hc.p4_0, kd_16, ix_16, hc.l16, cI_16, cw_16, cJ_16, cv_16, mV_4_5, mV_4_3, hc.p4_3, kd_88, ix_88, hc.l88, cI_88, cw_88, cJ_88, cv_88, cats_nil, cats_cons, rf_s, rf_n, isR_r, isR_n, isR_rf, cat_i, cat_l, cat_r, cat_n, cat_rf, unl_i, unl_l, unl_r, unl_n, unl_j, unl_rf, orf_r, orf_n, orf_rf, rf_null, mA_pm, mL_pm, mP_pm, List.length_cons, List.length_nil, List.cons_append, List.nil_append, Nat.reduceAdd, Nat.reduceLeDiff, Nat.reduceLT, Nat.reduceEqDiff, Nat.zero_add, Nat.add_zero, Nat.le_refl, Nat.zero_le, true_and, and_true, true_or, or_true, false_or, or_false, reduceIte, h44, bit_a u hu8 i hi8]
      refine ⟨fun z => absurd z (by rw [nI_le_iff]; omega), fun _ => ⟨fun z => ?_, fun z => ?_⟩⟩
      · obtain ⟨o1, o2⟩ := bit_o u hu8 i hi8 z
        obtain ⟨a1, a2, a3, a4⟩ := hA i hin
        have hci := csum_in (ct := ct) z hin
        have htn := tsum_le hct
        have hlt := lft_s z (n := n)
        rw [if_pos hin] at hlt
        have hro := hO i hin z
        unfold RS at hro
        rw [show lft (u + 2 ^ i) n = k by omega] at hro
        refine sp_at (n := 8) (by decide) rfl hc.l17 (by omega) hi8 ?_
        rw [a3]
        simp only [o_il, o_al, o_gf, o_ic2, o_ic, o_ii, o_is, o_if, o_i2l, o_ls, o_ll, o_jj, o_lc, o_ml, nth_5, nth_0, lset_6, nth_1, nth_6, nth_2, lsq_7, nth_7, lsq_9, nth_3, nth_9, lsq_3, opS_2, mV_4_4, al_4, cI_4, hc.a4, ix_4, mV_4_1, hc.p4_1, kd_17, ix_17, hc.l17, cI_17, cw_17, cJ_17, cv_17, mV_4_0, hc.p4_0, kd_16, ix_16, hc.l16, cI_16, cw_16, cJ_16, cv_16, mV_4_5, mV_4_3, hc.p4_3, kd_88, ix_88, hc.l88, cI_88, cw_88, cJ_88, cv_88, cats_nil, cats_cons, rf_s, rf_n, isR_r, isR_n, isR_rf, cat_i, cat_l, cat_r, cat_n, cat_rf, unl_i, unl_l, unl_r, unl_n, unl_j, unl_rf, orf_r, orf_n, orf_rf, rf_null, mA_pm, mL_pm, mP_pm, List.length_cons, List.length_nil, List.cons_append, List.nil_append, Nat.reduceAdd, Nat.reduceLeDiff, Nat.reduceLT, Nat.reduceEqDiff, Nat.zero_add, Nat.add_zero, Nat.le_refl, Nat.zero_le, true_and, and_true, true_or, or_true, false_or, or_false, reduceIte, nI_add, show (nI (csum ct u n + ct i)).toInt64 = lN (csum ct u n + ct i) from nI_l (by omega)]
        refine sp_at (n := 8) (by decide) rfl hc.l16 (by omega) hi8 ?_
        rw [a1]
        simp only [o_il, o_al, o_gf, o_ic2, o_ic, o_ii, o_is, o_if, o_i2l, o_ls, o_ll, o_jj, o_lc, o_ml, nth_5, nth_0, lset_6, nth_1, nth_6, nth_2, lsq_7, nth_7, lsq_9, nth_3, nth_9, lsq_3, opS_2, mV_4_4, al_4, cI_4, hc.a4, ix_4, mV_4_1, hc.p4_1, kd_17, ix_17, hc.l17, cI_17, cw_17, cJ_17, cv_17, mV_4_0, hc.p4_0, kd_16, ix_16, hc.l16, cI_16, cw_16, cJ_16, cv_16, mV_4_5, mV_4_3, hc.p4_3, kd_88, ix_88, hc.l88, cI_88, cw_88, cJ_88, cv_88, cats_nil, cats_cons, rf_s, rf_n, isR_r, isR_n, isR_rf, cat_i, cat_l, cat_r, cat_n, cat_rf, unl_i, unl_l, unl_r, unl_n, unl_j, unl_rf, orf_r, orf_n, orf_rf, rf_null, mA_pm, mL_pm, mP_pm, List.length_cons, List.length_nil, List.cons_append, List.nil_append, Nat.reduceAdd, Nat.reduceLeDiff, Nat.reduceLT, Nat.reduceEqDiff, Nat.zero_add, Nat.add_zero, Nat.le_refl, Nat.zero_le, true_and, and_true, true_or, or_true, false_or, or_false, reduceIte, h45, o1, show (nI (sz i)).toInt64 = lN (sz i) from nI_l (by omega), show (nI (tsum ct n)).toInt64 = lN (tsum ct n) from nI_l (by omega), lN_sub hci, lN_mul]
        refine sp_at_ (n := 256) (by decide) rfl hc.l88 (by omega) o2 ?_
        rw [hro]
        have hcj := hcb k i (by omega) z hin
        have e8 : ∀ S : Nat, lN S * (8 : Int64) = lN (S * 8) := fun S => lN_mul S 8
        simp only [o_il, o_al, o_gf, o_ic2, o_ic, o_ii, o_is, o_if, o_i2l, o_ls, o_ll, o_jj, o_lc, o_ml, nth_5, nth_0, lset_6, nth_1, nth_6, nth_2, lsq_7, nth_7, lsq_9, nth_3, nth_9, lsq_3, opS_2, mV_4_4, al_4, cI_4, hc.a4, ix_4, mV_4_1, hc.p4_1, kd_17, ix_17, hc.l17, cI_17, cw_17, cJ_17, cv_17, mV_4_0, hc.p4_0, kd_16, ix_16, hc.l16, cI_16, cw_16, cJ_16, cv_16, mV_4_5, mV_4_3, hc.p4_3, kd_88, ix_88, hc.l88, cI_88, cw_88, cJ_88, cv_88, cats_nil, cats_cons, rf_s, rf_n, isR_r, isR_n, isR_rf, cat_i, cat_l, cat_r, cat_n, cat_rf, unl_i, unl_l, unl_r, unl_n, unl_j, unl_rf, orf_r, orf_n, orf_rf, rf_null, mA_pm, mL_pm, mP_pm, List.length_cons, List.length_nil, List.cons_append, List.nil_append, Nat.reduceAdd, Nat.reduceLeDiff, Nat.reduceLT, Nat.reduceEqDiff, Nat.zero_add, Nat.add_zero, Nat.le_refl, Nat.zero_le, true_and, and_true, true_or, or_true, false_or, or_false, reduceIte, lN_add, show (nI i).toInt64 = lN i from nI_l (by omega), e8]
        rw [Nat.mul_assoc]
        obtain ⟨S, hS⟩ : ∃ S, S = stepL n sz ct u i + (LV n sz ct k (u + 2 ^ i)).1 := ⟨_, rfl⟩
        have hS2 : sz i * ((csum ct u n + ct i) * (tsum ct n - (csum ct u n + ct i))) + (LV n sz ct k (u + 2 ^ i)).1 = S := hS.symm
        rw [hS2]
        rw [← hS] at hcj
        refine k100 _ _ _ _ _ _ ?_
        have ec : cnl n sz ct k u i = some (S, i :: (LV n sz ct k (u + 2 ^ i)).2) := by
          rw [hS]
          exact if_neg (by rw [z]; decide)
        show _ = BL (fmO (fm _ i) (cnl n sz ct k u i))
        rw [ec]
        cases hf : fm (cnl n sz ct k u) i with
        | none =>
          show (if lN (S * 8 + i) < lN 9223372036854775807 then lN (S * 8 + i) else lN 9223372036854775807) = lN (S * 8 + i)
          rw [if_pos]
          rw [pk_lLT (by omega) (by omega)]
          omega
        | some x =>
          obtain ⟨j, hj, hb, rfl⟩ := cnl_hd hf
          have hb1 := hcb k j (by omega) hb (by omega)
          generalize (stepL n sz ct u j + (LV n sz ct k (u + 2 ^ j)).1) = Y at hb1 ⊢
          show (if lN (S * 8 + i) < lN (Y * 8 + j) then lN (S * 8 + i) else lN (Y * 8 + j)) = BL (if S < Y then _ else _)
          by_cases hSY : S < Y
          · rw [if_pos hSY, if_pos (show lN (S * 8 + i) < lN (Y * 8 + j) by rw [pk_lLT (by omega) (by omega)]; omega)]
            rfl
          · rw [if_neg hSY, if_neg (show ¬ lN (S * 8 + i) < lN (Y * 8 + j) by rw [pk_lLT (by omega) (by omega)]; omega)]
            rfl
      · have hb : u.testBit i = true := by simpa using z
        refine k100 _ _ _ _ _ _ ?_
        show BL _ = BL (fmO (fm _ i) (cnl n sz ct k u i))
        rw [show cnl n sz ct k u i = none from if_pos hb]
        rfl
  have k13z : L = 0 → ∀ m i w6 w7 w8 w9 w10, i + m = n → X 13 [.ref (ob 4 0), .int (nI u), .int (nI (csum ct u n)), .long 9223372036854775807, jk, .int (nI i), w6, w7, w8, w9, w10] [] (pm c M) 0 0 := by
    intro hL0 m
    induction m with
    | zero =>
      intro i w6 w7 w8 w9 w10 hi
      apply h13
      simp only [B_X4_best_13, o_il, o_al, o_gf, o_ic2, o_ic, o_ii, o_is, o_if, o_i2l, o_ls, o_ll, o_jj, o_lc, o_ml, nth_5, nth_0, lset_6, nth_1, nth_6, nth_2, lsq_7, nth_7, lsq_9, nth_3, nth_9, lsq_3, opS_2, mV_4_4, al_4, cI_4, hc.a4, ix_4, mV_4_1, hc.p4_1, kd_17, ix_17, hc.l17, cI_17, cw_17, cJ_17, cv_17, mV_4_0, hc.p4_0, kd_16, ix_16, hc.l16, cI_16, cw_16, cJ_16, cv_16, mV_4_5, mV_4_3, hc.p4_3, kd_88, ix_88, hc.l88, cI_88, cw_88, cJ_88, cv_88, cats_nil, cats_cons, rf_s, rf_n, isR_r, isR_n, isR_rf, cat_i, cat_l, cat_r, cat_n, cat_rf, unl_i, unl_l, unl_r, unl_n, unl_j, unl_rf, orf_r, orf_n, orf_rf, rf_null, mA_pm, mL_pm, mP_pm, List.length_cons, List.length_nil, List.cons_append, List.nil_append, Nat.reduceAdd, Nat.reduceLeDiff, Nat.reduceLT, Nat.reduceEqDiff, Nat.zero_add, Nat.add_zero, Nat.le_refl, Nat.zero_le, true_and, and_true, true_or, or_true, false_or, or_false, reduceIte, h44]
      refine ⟨fun _ => ?_, fun z => absurd (nI_le (by omega) (by omega)) z⟩
      apply h106
      simp only [B_X4_best_106, o_ll, o_lc, o_lcmp, o_if, nth_3, cats_nil, cats_cons, rf_s, rf_n, isR_r, isR_n, isR_rf, cat_i, cat_l, cat_r, cat_n, cat_rf, unl_i, unl_l, unl_r, unl_n, unl_j, unl_rf, orf_r, orf_n, orf_rf, rf_null, mA_pm, mL_pm, mP_pm, List.length_cons, List.length_nil, List.cons_append, List.nil_append, Nat.reduceAdd, Nat.reduceLeDiff, Nat.reduceLT, Nat.reduceEqDiff, Nat.zero_add, Nat.add_zero, Nat.le_refl, Nat.zero_le, true_and, and_true, true_or, or_true, false_or, or_false, reduceIte, lg_eq0]
      refine ⟨fun _ => ?_, fun z => by first | exact absurd rfl z | exact absurd trivial z⟩
      apply h119
      simp only [B_X4_best_119, o_lret, cats_nil, cats_cons, rf_s, rf_n, isR_r, isR_n, isR_rf, cat_i, cat_l, cat_r, cat_n, cat_rf, unl_i, unl_l, unl_r, unl_n, unl_j, unl_rf, orf_r, orf_n, orf_rf, rf_null, mA_pm, mL_pm, mP_pm, List.length_cons, List.length_nil, List.cons_append, List.nil_append, Nat.reduceAdd, Nat.reduceLeDiff, Nat.reduceLT, Nat.reduceEqDiff, Nat.zero_add, Nat.add_zero, Nat.le_refl, Nat.zero_le, true_and, and_true, true_or, or_true, false_or, or_false, reduceIte]
      exact H 0 (Or.inl ⟨by omega, rfl⟩)
    | succ m ih =>
      intro i w6 w7 w8 w9 w10 hi
      have hi8 : i < 8 := by omega
      have hb := lft_bits (u := u) (n := n) (by omega) i (by omega)
      apply h13
      simp only [B_X4_best_13, o_il, o_al, o_gf, o_ic2, o_ic, o_ii, o_is, o_if, o_i2l, o_ls, o_ll, o_jj, o_lc, o_ml, nth_5, nth_0, lset_6, nth_1, nth_6, nth_2, lsq_7, nth_7, lsq_9, nth_3, nth_9, lsq_3, opS_2, mV_4_4, al_4, cI_4, hc.a4, ix_4, mV_4_1, hc.p4_1, kd_17, ix_17, hc.l17, cI_17, cw_17, cJ_17, cv_17, mV_4_0, hc.p4_0, kd_16, ix_16, hc.l16, cI_16, cw_16, cJ_16, cv_16, mV_4_5, mV_4_3, hc.p4_3, kd_88, ix_88, hc.l88, cI_88, cw_88, cJ_88, cv_88, cats_nil, cats_cons, rf_s, rf_n, isR_r, isR_n, isR_rf, cat_i, cat_l, cat_r, cat_n, cat_rf, unl_i, unl_l, unl_r, unl_n, unl_j, unl_rf, orf_r, orf_n, orf_rf, rf_null, mA_pm, mL_pm, mP_pm, List.length_cons, List.length_nil, List.cons_append, List.nil_append, Nat.reduceAdd, Nat.reduceLeDiff, Nat.reduceLT, Nat.reduceEqDiff, Nat.zero_add, Nat.add_zero, Nat.le_refl, Nat.zero_le, true_and, and_true, true_or, or_true, false_or, or_false, reduceIte, h44, bit_a u hu8 i hi8]
      refine ⟨fun z => absurd z (by rw [nI_le_iff]; omega), fun _ => ⟨fun z => absurd (hb.symm.trans z) (by decide), fun z => ?_⟩⟩
      apply h100
      simp only [B_X4_best_100, o_inc, nth_5, lset_5, cats_nil, cats_cons, rf_s, rf_n, isR_r, isR_n, isR_rf, cat_i, cat_l, cat_r, cat_n, cat_rf, unl_i, unl_l, unl_r, unl_n, unl_j, unl_rf, orf_r, orf_n, orf_rf, rf_null, mA_pm, mL_pm, mP_pm, List.length_cons, List.length_nil, List.cons_append, List.nil_append, Nat.reduceAdd, Nat.reduceLeDiff, Nat.reduceLT, Nat.reduceEqDiff, Nat.zero_add, Nat.add_zero, Nat.le_refl, Nat.zero_le, true_and, and_true, true_or, or_true, false_or, or_false, reduceIte, nI_1]
      exact ih (i + 1) _ _ _ _ _ (by omega)
  apply h0
  simp only [B_X4_best_0, o_al, o_il, o_is, o_lc, o_ls, o_ic, nth_0, nth_1, lset_2, lsq_3, lset_5, opV_1, al_4, ix_4, hc.a4, cats_nil, cats_cons, rf_s, rf_n, isR_r, isR_n, isR_rf, cat_i, cat_l, cat_r, cat_n, cat_rf, unl_i, unl_l, unl_r, unl_n, unl_j, unl_rf, orf_r, orf_n, orf_rf, rf_null, mA_pm, mL_pm, mP_pm, List.length_cons, List.length_nil, List.cons_append, List.nil_append, Nat.reduceAdd, Nat.reduceLeDiff, Nat.reduceLT, Nat.reduceEqDiff, Nat.zero_add, Nat.add_zero, Nat.le_refl, Nat.zero_le, true_and, and_true, true_or, or_true, false_or, or_false, reduceIte]
  refine sp_countsOf hc hS' hu8 ?_
  simp only [o_al, o_il, o_is, o_lc, o_ls, o_ic, nth_0, nth_1, lset_2, lsq_3, lset_5, opV_1, al_4, ix_4, hc.a4, cats_nil, cats_cons, rf_s, rf_n, isR_r, isR_n, isR_rf, cat_i, cat_l, cat_r, cat_n, cat_rf, unl_i, unl_l, unl_r, unl_n, unl_j, unl_rf, orf_r, orf_n, orf_rf, rf_null, mA_pm, mL_pm, mP_pm, List.length_cons, List.length_nil, List.cons_append, List.nil_append, Nat.reduceAdd, Nat.reduceLeDiff, Nat.reduceLT, Nat.reduceEqDiff, Nat.zero_add, Nat.add_zero, Nat.le_refl, Nat.zero_le, true_and, and_true, true_or, or_true, false_or, or_false, reduceIte]
  rcases Nat.eq_zero_or_pos L with z | z
  · exact k13z z n 0 _ _ _ _ _ (by omega)
  · exact k13 (L - 1) (by omega) n 0 _ _ _ _ _ (by omega)
end ZC10
