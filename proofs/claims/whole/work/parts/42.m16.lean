/-! The model: lays -/
theorem lg_lt0 {a b : Int64} : (lg_cmp a b < 0) = (a < b) := by
  unfold lg_cmp
  refine propext ⟨fun h => ?_, fun h => ?_⟩
  · split at h
    · exact absurd h (by decide)
    · split at h
      · exact absurd h (by decide)
      · rename_i h1 h2
        exact Int64.lt_of_le_of_ne (Int64.not_lt.mp h1) h2
  · rw [if_neg (fun z => Int64.lt_irrefl (Int64.lt_trans h z)), if_neg (fun z => by rw [z] at h; exact Int64.lt_irrefl h)]
    decide
def AccL (n : Nat) (sz : Nat → Nat) (M : MD) (a : Option (Nat × List Nat)) : Prop := match a with
  | none => M.2 7 47 = -1
  | some x => M.2 7 47 = lN x.1 ∧ x.1 ≤ 100000000000 ∧ ∀ i, i < n → M.1 50 i = nI (stO sz x.2 0 i)
/-- the items on the shelf -/
def ItL (M : MD) (n : Nat) (sz ct : Nat → Nat) : Prop := n ≤ 8 ∧ M.1 7 42 = nI n ∧ ∀ i, i < n → M.1 47 i = nI (sz i) ∧ sz i ≤ 50 ∧ M.1 48 i = nI (ct i) ∧ ct i ≤ 1000
section ZM16
variable {l : Launch} {D : DD} {d : Nat} {c : HP} {M : MD} {Q : List Value → HP → Prop}
set_option maxHeartbeats 2000000 in
theorem sp_lays (hs : SKM c) {n : Nat} {sz ct : Nat → Nat} (hL : ItL M n sz ct) : ∀ (r : Nat) (p : List Nat) (u w P : Nat) (acc : Option (Nat × List Nat)) (M' : MD) (Q : List Value → HP → Prop),
    p.length + r = n → lft u n = r → u < 256 → (∀ j ∈ p, j < n ∧ u.testBit j = true) → w + dsum ct (stO sz p 0) u (spL sz p) n * (tsum ct n - csum ct u n) = P → P ≤ p.length * 4000000000 → SC M M' → (∀ j, j < n → u.testBit j = true → M'.1 49 j = nI (stO sz p 0 j)) → AccL n sz M' acc →
    (∀ M'', SC M M'' → (∀ j, j < n → u.testBit j = true → M''.1 49 j = nI (stO sz p 0 j)) → AccL n sz M'' (upS acc P p (some (LV n sz ct r u))) → Q [] (pm c M'')) →
    K_X7_lays l D (d + r + 1) [.ref (ob 7 0), .int (nI p.length), .int (nI u), .int (nI (spL sz p)), .long (lN w)] (pm c M') Q := by
  obtain ⟨hn8, hLn, hL⟩ := hL
  have hsz : ∀ i, i < n → sz i ≤ 50 := fun i hi => (hL i hi).2.1
  have hct : ∀ i, i < n → ct i ≤ 1000 := fun i hi => (hL i hi).2.2.2
  intro r
  induction r with
  | zero =>
    intro p u w P acc M' Q hp hlf hu hpu hP hPb hS h49 hA H
    refine m_X7_lays (lsA := [.ref (ob 7 0), .int (nI p.length), .int (nI u), .int (nI (spL sz p)), .long (lN w), jk, jk, jk, jk, jk]) rfl (Nat.le_of_ble_eq_true rfl) ?_
    intro X h0 h20 h37 h66 h67 h70 h92 h98 h150 h156 h191 h197
    have hbits := lft_bits hlf
    have hPw : P = w := by rw [← hP, csum_full hlf, Nat.sub_self, Nat.mul_zero, Nat.add_zero]
    have hpl : p.length = n := by omega
    rw [hPw] at H hPb
    have hcopy : (∀ x, acc = some x → w < x.1) → ∀ m i M1, i + m = n → SC M M1 → M1.2 7 47 = lN w → (∀ j, j < n → M1.1 49 j = nI (stO sz p 0 j)) → (∀ j, j < i → M1.1 50 j = nI (stO sz p 0 j)) → ∀ w7 w8 w9, X 37 [.ref (ob 7 0), .int (nI p.length), .int (nI u), .int (nI (spL sz p)), .long (lN w), jk, .int (nI i), w7, w8, w9] [] (pm c M1) 0 0 := by
      intro hacc m
      induction m with
      | zero =>
        intro i M1 hi g0 g1 g2 g3 w7 w8 w9
        obtain rfl : i = n := by omega
        apply h37
        simp only [B_X7_lays_37, o_il, o_al, o_gf, o_ic2, o_iald, o_iast, o_inc, nth_6, nth_0, lset_6, mV_7_42, al_7, hs.a7, rm_7, ix_7, mV_7_46, hs.p46, kd_50, ix_50, hs.l50, rm_50, wm_50, mV_7_45, hs.p45, kd_49, ix_49, hs.l49, rm_49, wm_49, rf_s, rf_n, isR_r, isR_n, isR_rf, cat_i, cat_l, cat_r, cat_n, cat_rf, unl_i, unl_l, unl_r, unl_n, unl_j, unl_rf, orf_r, orf_n, orf_rf, rf_null, mA_pm, mL_pm, mP_pm, List.length_cons, List.length_nil, List.cons_append, List.nil_append, Nat.reduceAdd, Nat.reduceLeDiff, Nat.reduceLT, Nat.reduceEqDiff, Nat.zero_add, Nat.add_zero, Nat.le_refl, Nat.zero_le, true_and, and_true, true_or, or_true, false_or, or_false, reduceIte, show M1.1 7 42 = nI i by rw [g0.s42]; exact hLn]
        refine ⟨fun _ => ?_, fun z => absurd (nI_le (by omega) (by omega)) z⟩
        apply h66
        simp only [B_X7_lays_66, o_vret, rf_s, rf_n, isR_r, isR_n, isR_rf, cat_i, cat_l, cat_r, cat_n, cat_rf, unl_i, unl_l, unl_r, unl_n, unl_j, unl_rf, orf_r, orf_n, orf_rf, rf_null, mA_pm, mL_pm, mP_pm, List.length_cons, List.length_nil, List.cons_append, List.nil_append, Nat.reduceAdd, Nat.reduceLeDiff, Nat.reduceLT, Nat.reduceEqDiff, Nat.zero_add, Nat.add_zero, Nat.le_refl, Nat.zero_le, true_and, and_true, true_or, or_true, false_or, or_false, reduceIte]
        refine H M1 g0 (fun j hj _ => g2 j hj) ?_
        rw [upS_take (fun x hx => by show w + 0 < x.1; have := hacc x hx; omega)]
        exact ⟨by show M1.2 7 47 = lN (w + 0); exact g1, by show w + 0 ≤ _; omega, fun j hj => by show _ = nI (stO sz (p ++ []) 0 j); rw [List.append_nil]; exact g3 j hj⟩
      | succ m ihm =>
        intro i M1 hi g0 g1 g2 g3 w7 w8 w9
        have hin : i < n := by omega
        have hi8 : i < 8 := by omega
        apply h37
        simp only [B_X7_lays_37, o_il, o_al, o_gf, o_ic2, o_iald, o_iast, o_inc, nth_6, nth_0, lset_6, mV_7_42, al_7, hs.a7, rm_7, ix_7, mV_7_46, hs.p46, kd_50, ix_50, hs.l50, rm_50, wm_50, mV_7_45, hs.p45, kd_49, ix_49, hs.l49, rm_49, wm_49, rf_s, rf_n, isR_r, isR_n, isR_rf, cat_i, cat_l, cat_r, cat_n, cat_rf, unl_i, unl_l, unl_r, unl_n, unl_j, unl_rf, orf_r, orf_n, orf_rf, rf_null, mA_pm, mL_pm, mP_pm, List.length_cons, List.length_nil, List.cons_append, List.nil_append, Nat.reduceAdd, Nat.reduceLeDiff, Nat.reduceLT, Nat.reduceEqDiff, Nat.zero_add, Nat.add_zero, Nat.le_refl, Nat.zero_le, true_and, and_true, true_or, or_true, false_or, or_false, reduceIte, show M1.1 7 42 = nI n by rw [g0.s42]; exact hLn, vin hi8, ncl hi8, g2 i hin, nI_1]
        refine ⟨fun z => absurd z (by rw [nI_le_iff]; omega), fun _ => ?_⟩
        refine ihm (i + 1) _ (by omega) (g0.w _ rfl) g1 (fun j hj => by rw [uI_1, if_neg (by omega)]; exact g2 j hj) (fun j hj => ?_) w7 w8 w9
        rw [uI_1]
        by_cases e : j = i
        · rw [if_pos ⟨rfl, e⟩, e]
        · rw [if_neg (fun z => e z.2)]
          exact g3 j (by omega)
    have k20 : (∀ x, acc = some x → w < x.1) → X 20 [.ref (ob 7 0), .int (nI p.length), .int (nI u), .int (nI (spL sz p)), .long (lN w), jk, jk, jk, jk, jk] [] (pm c M') 0 0 := by
      intro hacc
      apply h20
      simp only [B_X7_lays_20, o_il, o_al, o_gf, o_ic2, o_ll, o_pJ, o_ic, o_is, nth_1, nth_0, nth_4, lset_6, mV_7_42, al_7, hs.a7, rm_7, ix_7, wm_7, wmJ_7, rf_s, rf_n, isR_r, isR_n, isR_rf, cat_i, cat_l, cat_r, cat_n, cat_rf, unl_i, unl_l, unl_r, unl_n, unl_j, unl_rf, orf_r, orf_n, orf_rf, rf_null, mA_pm, mL_pm, mP_pm, List.length_cons, List.length_nil, List.cons_append, List.nil_append, Nat.reduceAdd, Nat.reduceLeDiff, Nat.reduceLT, Nat.reduceEqDiff, Nat.zero_add, Nat.add_zero, Nat.le_refl, Nat.zero_le, true_and, and_true, true_or, or_true, false_or, or_false, reduceIte, show M'.1 7 42 = nI n by rw [hS.s42]; exact hLn]
      refine ⟨fun _ => ?_, fun z => absurd (by rw [hpl]) z⟩
      exact hcopy hacc n 0 _ (by omega) (hS.wj _ _) rfl (fun j hj => h49 j hj (hbits j hj)) (fun j hj => by omega) _ _ _
    apply h0
    simp only [B_X7_lays_0, o_al, o_gf, o_lc, o_lcmp, o_if, o_ll, o_vret, nth_0, nth_4, mV_7_47, al_7, hs.a7, rmJ_7, ix_7, rf_s, rf_n, isR_r, isR_n, isR_rf, cat_i, cat_l, cat_r, cat_n, cat_rf, unl_i, unl_l, unl_r, unl_n, unl_j, unl_rf, orf_r, orf_n, orf_rf, rf_null, mA_pm, mL_pm, mP_pm, List.length_cons, List.length_nil, List.cons_append, List.nil_append, Nat.reduceAdd, Nat.reduceLeDiff, Nat.reduceLT, Nat.reduceEqDiff, Nat.zero_add, Nat.add_zero, Nat.le_refl, Nat.zero_le, true_and, and_true, true_or, or_true, false_or, or_false, reduceIte, lg_lt0]
    cases hacc : acc with
    | none =>
      rw [hacc] at hA
      have hA' : M'.2 7 47 = -1 := hA
      rw [hA']
      refine ⟨fun _ => k20 (fun x hx => by rw [hacc] at hx; cases hx), fun z => absurd (by decide) z⟩
    | some x =>
      rw [hacc] at hA
      obtain ⟨a1, a2, a3⟩ := hA
      rw [a1]
      refine ⟨fun z => absurd z (by rw [show (0 : Int64) = lN 0 from rfl, pk_lLT (by omega) (by omega)]; omega), fun _ => ⟨fun z => k20 (fun y hy => ?_), fun z => ?_⟩⟩
      · rw [hacc] at hy
        cases hy
        rw [pk_lLT (by omega) (by omega)] at z
        exact z
      · rw [pk_lLT (by omega) (by omega)] at z
        refine H M' hS h49 ?_
        rw [upS_keep hacc (by omega), hacc]
        exact ⟨a1, a2, a3⟩
  | succ r ih =>
    intro p u w P acc M' Q hp hlf hu hpu hP hPb hS h49 hA H
    refine m_X7_lays (lsA := [.ref (ob 7 0), .int (nI p.length), .int (nI u), .int (nI (spL sz p)), .long (lN w), jk, jk, jk, jk, jk]) rfl (Nat.le_of_ble_eq_true rfl) ?_
    intro X h0 h20 h37 h66 h67 h70 h92 h98 h150 h156 h191 h197
    sorry
end ZM16
