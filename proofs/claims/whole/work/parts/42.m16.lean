/-! The model: lays -/
theorem lg_lt0 {a b : Int64} : (lg_cmp a b < 0) = (a < b) := by
  unfold lg_cmp
  refine propext ⟨fun h => ?_, fun h => ?_⟩
  · split at h
    · exact absurd h (by decide)
    · split at h
      · exact absurd h (by decide)
      · rename_i h1 h2
        exact Int64.lt_of_le_of_ne (Int64.not_lt.mp h1) h2
  · rw [if_neg (fun z => Int64.lt_irrefl (Int64.lt_trans h z)), if_neg (fun z => by rw [z] at h; exact Int64.lt_irrefl h)]
    decide
def AccL (n : Nat) (sz : Nat → Nat) (M : MD) (a : Option (Nat × List Nat)) : Prop := match a with
  | none => M.2 7 47 = -1
  | some x => M.2 7 47 = lN x.1 ∧ x.1 ≤ 100000000000 ∧ ∀ i, i < n → M.1 50 i = nI (stO sz x.2 0 i)
/-- the items on the shelf -/
def ItL (M : MD) (n : Nat) (sz ct : Nat → Nat) : Prop := n ≤ 8 ∧ M.1 7 42 = nI n ∧ ∀ i, i < n → M.1 47 i = nI (sz i) ∧ sz i ≤ 50 ∧ M.1 48 i = nI (ct i) ∧ ct i ≤ 1000
section ZM16
variable {l : Launch} {D : DD} {d : Nat} {c : HP} {M : MD} {Q : List Value → HP → Prop}
set_option maxHeartbeats 2000000 in
theorem sp_lays (hs : SKM c) {n : Nat} {sz ct : Nat → Nat} (hL : ItL M n sz ct) : ∀ (r : Nat) (p : List Nat) (u w P : Nat) (acc : Option (Nat × List Nat)) (M' : MD) (Q : List Value → HP → Prop),
    p.length + r = n → lft u n = r → u < 256 → (∀ j ∈ p, j < n ∧ u.testBit j = true) → w + dsum ct (stO sz p 0) u (spL sz p) n * (tsum ct n - csum ct u n) = P → P ≤ p.length * 4000000000 → SC M M' → (∀ j, j < n → u.testBit j = true → M'.1 49 j = nI (stO sz p 0 j)) → AccL n sz M' acc →
    (∀ M'', SC M M'' → (∀ j, j < n → u.testBit j = true → M''.1 49 j = nI (stO sz p 0 j)) → AccL n sz M'' (upS acc P p (some (LV n sz ct r u))) → Q [] (pm c M'')) →
    K_X7_lays l D (d + r + 1) [.ref (ob 7 0), .int (nI p.length), .int (nI u), .int (nI (spL sz p)), .long (lN w)] (pm c M') Q := by
  obtain ⟨hn8, hLn, hL⟩ := hL
  have hsz : ∀ i, i < n → sz i ≤ 50 := fun i hi => (hL i hi).2.1
  have hct : ∀ i, i < n → ct i ≤ 1000 := fun i hi => (hL i hi).2.2.2
  intro r
  induction r with
  | zero =>
    intro p u w P acc M' Q hp hlf hu hpu hP hPb hS h49 hA H
    refine m_X7_lays (lsA := [.ref (ob 7 0), .int (nI p.length), .int (nI u), .int (nI (spL sz p)), .long (lN w), jk, jk, jk, jk, jk]) rfl (Nat.le_of_ble_eq_true rfl) ?_
    intro X h0 h20 h37 h66 h67 h70 h92 h98 h150 h156 h191 h197
    have hbits := lft_bits hlf
    have hPw : P = w := by rw [← hP, csum_full hlf, Nat.sub_self, Nat.mul_zero, Nat.add_zero]
    have hpl : p.length = n := by omega
    rw [hPw] at H hPb
    have hcopy : (∀ x, acc = some x → w < x.1) → ∀ m i M1, i + m = n → SC M M1 → M1.2 7 47 = lN w → (∀ j, j < n → M1.1 49 j = nI (stO sz p 0 j)) → (∀ j, j < i → M1.1 50 j = nI (stO sz p 0 j)) → ∀ w7 w8 w9, X 37 [.ref (ob 7 0), .int (nI p.length), .int (nI u), .int (nI (spL sz p)), .long (lN w), jk, .int (nI i), w7, w8, w9] [] (pm c M1) 0 0 := by
      intro hacc m
      induction m with
      | zero =>
        intro i M1 hi g0 g1 g2 g3 w7 w8 w9
        obtain rfl : i = n := by omega
        apply h37
        simp only [B_X7_lays_37, o_il, o_al, o_gf, o_ic2, o_iald, o_iast, o_inc, nth_6, nth_0, lset_6, mV_7_42, al_7, hs.a7, rm_7, ix_7, mV_7_46, hs.p46, kd_50, ix_50, hs.l50, rm_50, wm_50, mV_7_45, hs.p45, kd_49, ix_49, hs.l49, rm_49, wm_49, cats_nil, cats_cons, rf_s, rf_n, isR_r, isR_n, isR_rf, cat_i, cat_l, cat_r, cat_n, cat_rf, unl_i, unl_l, unl_r, unl_n, unl_j, unl_rf, orf_r, orf_n, orf_rf, rf_null, mA_pm, mL_pm, mP_pm, List.length_cons, List.length_nil, List.cons_append, List.nil_append, Nat.reduceAdd, Nat.reduceLeDiff, Nat.reduceLT, Nat.reduceEqDiff, Nat.zero_add, Nat.add_zero, Nat.le_refl, Nat.zero_le, true_and, and_true, true_or, or_true, false_or, or_false, reduceIte, show M1.1 7 42 = nI i by rw [g0.s42]; exact hLn]
        refine ⟨fun _ => ?_, fun z => absurd (nI_le (by omega) (by omega)) z⟩
        apply h66
        simp only [B_X7_lays_66, o_vret, cats_nil, cats_cons, rf_s, rf_n, isR_r, isR_n, isR_rf, cat_i, cat_l, cat_r, cat_n, cat_rf, unl_i, unl_l, unl_r, unl_n, unl_j, unl_rf, orf_r, orf_n, orf_rf, rf_null, mA_pm, mL_pm, mP_pm, List.length_cons, List.length_nil, List.cons_append, List.nil_append, Nat.reduceAdd, Nat.reduceLeDiff, Nat.reduceLT, Nat.reduceEqDiff, Nat.zero_add, Nat.add_zero, Nat.le_refl, Nat.zero_le, true_and, and_true, true_or, or_true, false_or, or_false, reduceIte]
        refine H M1 g0 (fun j hj _ => g2 j hj) ?_
        rw [upS_take (fun x hx => by show w + 0 < x.1; have := hacc x hx; omega)]
        exact ⟨by show M1.2 7 47 = lN (w + 0); exact g1, by show w + 0 ≤ _; omega, fun j hj => by show _ = nI (stO sz (p ++ []) 0 j); rw [List.append_nil]; exact g3 j hj⟩
      | succ m ihm =>
        intro i M1 hi g0 g1 g2 g3 w7 w8 w9
        have hin : i < n := by omega
        have hi8 : i < 8 := by omega
        apply h37
        simp only [B_X7_lays_37, o_il, o_al, o_gf, o_ic2, o_iald, o_iast, o_inc, nth_6, nth_0, lset_6, mV_7_42, al_7, hs.a7, rm_7, ix_7, mV_7_46, hs.p46, kd_50, ix_50, hs.l50, rm_50, wm_50, mV_7_45, hs.p45, kd_49, ix_49, hs.l49, rm_49, wm_49, cats_nil, cats_cons, rf_s, rf_n, isR_r, isR_n, isR_rf, cat_i, cat_l, cat_r, cat_n, cat_rf, unl_i, unl_l, unl_r, unl_n, unl_j, unl_rf, orf_r, orf_n, orf_rf, rf_null, mA_pm, mL_pm, mP_pm, List.length_cons, List.length_nil, List.cons_append, List.nil_append, Nat.reduceAdd, Nat.reduceLeDiff, Nat.reduceLT, Nat.reduceEqDiff, Nat.zero_add, Nat.add_zero, Nat.le_refl, Nat.zero_le, true_and, and_true, true_or, or_true, false_or, or_false, reduceIte, show M1.1 7 42 = nI n by rw [g0.s42]; exact hLn, vin hi8, ncl hi8, g2 i hin, nI_1]
        refine ⟨fun z => absurd z (by rw [nI_le_iff]; omega), fun _ => ?_⟩
        refine ihm (i + 1) _ (by omega) (g0.w _ rfl) g1 (fun j hj => by rw [uI_1, if_neg (by omega)]; exact g2 j hj) (fun j hj => ?_) w7 w8 w9
        rw [uI_1]
        by_cases e : j = i
        · rw [if_pos ⟨rfl, e⟩, e]
        · rw [if_neg (fun z => e z.2)]
          exact g3 j (by omega)
    have k20 : (∀ x, acc = some x → w < x.1) → X 20 [.ref (ob 7 0), .int (nI p.length), .int (nI u), .int (nI (spL sz p)), .long (lN w), jk, jk, jk, jk, jk] [] (pm c M') 0 0 := by
      intro hacc
      apply h20
      simp only [B_X7_lays_20, o_il, o_al, o_gf, o_ic2, o_ll, o_pJ, o_ic, o_is, nth_1, nth_0, nth_4, lset_6, mV_7_42, al_7, hs.a7, rm_7, ix_7, wm_7, wmJ_7, cats_nil, cats_cons, rf_s, rf_n, isR_r, isR_n, isR_rf, cat_i, cat_l, cat_r, cat_n, cat_rf, unl_i, unl_l, unl_r, unl_n, unl_j, unl_rf, orf_r, orf_n, orf_rf, rf_null, mA_pm, mL_pm, mP_pm, List.length_cons, List.length_nil, List.cons_append, List.nil_append, Nat.reduceAdd, Nat.reduceLeDiff, Nat.reduceLT, Nat.reduceEqDiff, Nat.zero_add, Nat.add_zero, Nat.le_refl, Nat.zero_le, true_and, and_true, true_or, or_true, false_or, or_false, reduceIte, show M'.1 7 42 = nI n by rw [hS.s42]; exact hLn]
      refine ⟨fun _ => ?_, fun z => absurd (by rw [hpl]) z⟩
      exact hcopy hacc n 0 _ (by omega) (hS.wj _ _) rfl (fun j hj => h49 j hj (hbits j hj)) (fun j hj => by omega) _ _ _
    apply h0
    simp only [B_X7_lays_0, o_al, o_gf, o_lc, o_lcmp, o_if, o_ll, o_vret, nth_0, nth_4, mV_7_47, al_7, hs.a7, rmJ_7, ix_7, cats_nil, cats_cons, rf_s, rf_n, isR_r, isR_n, isR_rf, cat_i, cat_l, cat_r, cat_n, cat_rf, unl_i, unl_l, unl_r, unl_n, unl_j, unl_rf, orf_r, orf_n, orf_rf, rf_null, mA_pm, mL_pm, mP_pm, List.length_cons, List.length_nil, List.cons_append, List.nil_append, Nat.reduceAdd, Nat.reduceLeDiff, Nat.reduceLT, Nat.reduceEqDiff, Nat.zero_add, Nat.add_zero, Nat.le_refl, Nat.zero_le, true_and, and_true, true_or, or_true, false_or, or_false, reduceIte, lg_lt0]
    cases hacc : acc with
    | none =>
      rw [hacc] at hA
      have hA' : M'.2 7 47 = -1 := hA
      rw [hA']
      refine ⟨fun _ => k20 (fun x hx => by rw [hacc] at hx; cases hx), fun z => absurd (by decide) z⟩
    | some x =>
      rw [hacc] at hA
      obtain ⟨a1, a2, a3⟩ := hA
      rw [a1]
      refine ⟨fun z => absurd z (by rw [show (0 : Int64) = lN 0 from rfl, pk_lLT (by omega) (by omega)]; omega), fun _ => ⟨fun z => k20 (fun y hy => ?_), fun z => ?_⟩⟩
      · rw [hacc] at hy
        cases hy
        rw [pk_lLT (by omega) (by omega)] at z
        exact z
      · rw [pk_lLT (by omega) (by omega)] at z
        refine H M' hS h49 ?_
        rw [upS_keep hacc (by omega), hacc]
        exact ⟨a1, a2, a3⟩
  | succ r ih =>
    intro p u w P acc M' Q hp hlf hu hpu hP hPb hS h49 hA H
    refine m_X7_lays (lsA := [.ref (ob 7 0), .int (nI p.length), .int (nI u), .int (nI (spL sz p)), .long (lN w), jk, jk, jk, jk, jk]) rfl (Nat.le_of_ble_eq_true rfl) ?_
    intro X h0 h20 h37 h66 h67 h70 h92 h98 h150 h156 h191 h197
    obtain ⟨xV, hxV⟩ := fm_someL (sz := sz) (ct := ct) hlf
    have hVS : LV n sz ct (r + 1) u = xV := by rw [LV_s, hxV]; rfl
    have hwP : w ≤ P := by omega
    have hp8 : p.length < 8 := by omega
    have hspl := spL_le hsz p (fun j hj => (hpu j hj).1)
    have k70 : ∀ m i M1 w7 w8 w9, i + m = n → SC M M1 → (∀ j, j < n → u.testBit j = true → M1.1 49 j = nI (stO sz p 0 j)) → AccL n sz M1 (upS acc P p (fm (cnl n sz ct r u) i)) → X 70 [.ref (ob 7 0), .int (nI p.length), .int (nI u), .int (nI (spL sz p)), .long (lN w), jk, .int (nI i), w7, w8, w9] [] (pm c M1) 0 0 := by
      intro m
      induction m with
      | zero =>
        intro i M1 w7 w8 w9 hi g0 g1 g2
        obtain rfl : i = n := by omega
        apply h70
        simp only [B_X7_lays_70, o_il, o_al, o_gf, o_ic2, o_ii, o_ic, nth_6, nth_0, nth_2, mV_7_42, al_7, hs.a7, rm_7, ix_7, cats_nil, cats_cons, rf_s, rf_n, isR_r, isR_n, isR_rf, cat_i, cat_l, cat_r, cat_n, cat_rf, unl_i, unl_l, unl_r, unl_n, unl_j, unl_rf, orf_r, orf_n, orf_rf, rf_null, mA_pm, mL_pm, mP_pm, List.length_cons, List.length_nil, List.cons_append, List.nil_append, Nat.reduceAdd, Nat.reduceLeDiff, Nat.reduceLT, Nat.reduceEqDiff, Nat.zero_add, Nat.add_zero, Nat.le_refl, Nat.zero_le, true_and, and_true, true_or, or_true, false_or, or_false, reduceIte, show M1.1 7 42 = nI i by rw [g0.s42]; exact hLn]
        refine ⟨fun _ => ?_, fun z => absurd (nI_le (by omega) (by omega)) z⟩
        apply h197
        simp only [B_X7_lays_197, o_vret, cats_nil, cats_cons, rf_s, rf_n, isR_r, isR_n, isR_rf, cat_i, cat_l, cat_r, cat_n, cat_rf, unl_i, unl_l, unl_r, unl_n, unl_j, unl_rf, orf_r, orf_n, orf_rf, rf_null, mA_pm, mL_pm, mP_pm, List.length_cons, List.length_nil, List.cons_append, List.nil_append, Nat.reduceAdd, Nat.reduceLeDiff, Nat.reduceLT, Nat.reduceEqDiff, Nat.zero_add, Nat.add_zero, Nat.le_refl, Nat.zero_le, true_and, and_true, true_or, or_true, false_or, or_false, reduceIte]
        refine H M1 g0 g1 ?_
        rw [hVS]
        rw [hxV] at g2
        exact g2
      | succ m ihm =>
        intro i M1 w7 w8 w9 hi g0 g1 g2
        have hin : i < n := by omega
        have hi8 : i < 8 := by omega
        obtain ⟨l1, l2, l3, l4⟩ := hL i hin
        have k191 : ∀ M2 w7 w8 w9, SC M M2 → (∀ j, j < n → u.testBit j = true → M2.1 49 j = nI (stO sz p 0 j)) → AccL n sz M2 (upS acc P p (fm (cnl n sz ct r u) (i + 1))) → X 191 [.ref (ob 7 0), .int (nI p.length), .int (nI u), .int (nI (spL sz p)), .long (lN w), jk, .int (nI i), w7, w8, w9] [] (pm c M2) 0 0 := by
          intro M2 w7 w8 w9 f0 f1 f2
          apply h191
          simp only [B_X7_lays_191, o_inc, nth_6, lset_6, cats_nil, cats_cons, rf_s, rf_n, isR_r, isR_n, isR_rf, cat_i, cat_l, cat_r, cat_n, cat_rf, unl_i, unl_l, unl_r, unl_n, unl_j, unl_rf, orf_r, orf_n, orf_rf, rf_null, mA_pm, mL_pm, mP_pm, List.length_cons, List.length_nil, List.cons_append, List.nil_append, Nat.reduceAdd, Nat.reduceLeDiff, Nat.reduceLT, Nat.reduceEqDiff, Nat.zero_add, Nat.add_zero, Nat.le_refl, Nat.zero_le, true_and, and_true, true_or, or_true, false_or, or_false, reduceIte, nI_1]
          exact ihm (i + 1) M2 w7 w8 w9 (by omega) f0 f1 f2
        apply h70
        simp only [B_X7_lays_70, o_il, o_al, o_gf, o_ic2, o_ii, o_ic, nth_6, nth_0, nth_2, mV_7_42, al_7, hs.a7, rm_7, ix_7, cats_nil, cats_cons, rf_s, rf_n, isR_r, isR_n, isR_rf, cat_i, cat_l, cat_r, cat_n, cat_rf, unl_i, unl_l, unl_r, unl_n, unl_j, unl_rf, orf_r, orf_n, orf_rf, rf_null, mA_pm, mL_pm, mP_pm, List.length_cons, List.length_nil, List.cons_append, List.nil_append, Nat.reduceAdd, Nat.reduceLeDiff, Nat.reduceLT, Nat.reduceEqDiff, Nat.zero_add, Nat.add_zero, Nat.le_refl, Nat.zero_le, true_and, and_true, true_or, or_true, false_or, or_false, reduceIte, show M1.1 7 42 = nI n by rw [g0.s42]; exact hLn]
        refine ⟨fun q => absurd q (by rw [nI_le_iff]; omega), fun _ => ⟨fun q => ?_, fun q => ?_⟩⟩
        · refine k191 M1 w7 w8 w9 g0 g1 ?_
          have e : cnl n sz ct r u i = none := if_pos ((bit_t u hu i hi8).mp q)
          show AccL n sz M1 (upS acc P p (fmO (fm (cnl n sz ct r u) i) (cnl n sz ct r u i)))
          rw [e]
          exact g2
        · have hb : u.testBit i = false := by
            cases hq : u.testBit i with
            | false => rfl
            | true => exact absurd ((bit_t u hu i hi8).mpr hq) q
          have hip : i ∉ p := fun z => by have := (hpu i z).2; rw [hb] at this; cases this
          obtain ⟨o1, o2⟩ := bit_o u hu i hi8 hb
          have e : cnl n sz ct r u i = some (stepL n sz ct u i + (LV n sz ct r (u + 2 ^ i)).1, i :: (LV n sz ct r (u + 2 ^ i)).2) := if_neg (by rw [hb]; decide)
          have k156 : ∀ w9, X 156 [.ref (ob 7 0), .int (nI p.length), .int (nI u), .int (nI (spL sz p)), .long (lN w), jk, .int (nI i), .long (lN (msum ct (stO sz p 0) u (spL sz p) i n)), jk, w9] [] (pm c M1) 0 0 := by
            intro w9
            apply h156
            simp only [B_X7_lays_156, o_al, o_gf, o_il, o_iast, o_ic, o_ii, o_iald, o_ll, o_jj, nth_0, nth_6, nth_3, nth_1, nth_2, nth_4, nth_7, opV_4, mV_7_45, al_7, hs.a7, hs.p45, kd_49, ix_49, hs.l49, rm_49, wm_49, ix_7, mV_7_43, hs.p43, kd_47, ix_47, hs.l47, rm_47, wm_47, cats_nil, cats_cons, rf_s, rf_n, isR_r, isR_n, isR_rf, cat_i, cat_l, cat_r, cat_n, cat_rf, unl_i, unl_l, unl_r, unl_n, unl_j, unl_rf, orf_r, orf_n, orf_rf, rf_null, mA_pm, mL_pm, mP_pm, List.length_cons, List.length_nil, List.cons_append, List.nil_append, Nat.reduceAdd, Nat.reduceLeDiff, Nat.reduceLT, Nat.reduceEqDiff, Nat.zero_add, Nat.add_zero, Nat.le_refl, Nat.zero_le, true_and, and_true, true_or, or_true, false_or, or_false, reduceIte, vin hi8, ncl hi8, o1, nI_1, uI_1, Nat.reduceEqDiff, false_and, show M1.1 47 i = nI (sz i) by rw [g0.r47]; exact l1, nI_add, lN_add]
            have hpl : (p ++ [i]).length = p.length + 1 := by simp
            have hss : spL sz (p ++ [i]) = spL sz p + sz i := spL_app sz i p
            have hT := csum_in (ct := ct) hb hin
            have hlt := lft_s hb (n := n)
            rw [if_pos hin] at hlt
            have hstp := stepL_le (sz := sz) (ct := ct) (u := u) hn8 hb hin hsz hct
            have hsame : ∀ j, u.testBit j = true → stO sz (p ++ [i]) 0 j = stO sz p 0 j := fun j hj => (stO_app p 0 j).1 (fun z => by rw [z, hb] at hj; cases hj)
            have hnew : stO sz (p ++ [i]) 0 i = spL sz p := by rw [(stO_app p 0 i).2 hip, Nat.zero_add]
            have heq : w + msum ct (stO sz p 0) u (spL sz p) i n + dsum ct (stO sz (p ++ [i]) 0) (u + 2 ^ i) (spL sz (p ++ [i])) n * (tsum ct n - csum ct (u + 2 ^ i) n) = P + stepL n sz ct u i := by
              have hd := dsum_add (ct := ct) (st := stO sz p 0) (st' := stO sz (p ++ [i]) 0) (a := spL sz p) (s := sz i) hb hnew n (fun j _ hj => ⟨by have := stO_le (sz := sz) (j := j) p 0; omega, hsame j hj⟩)
              rw [hss, hd, if_pos hin, csum_add hb, if_pos hin, msum_eq]
              refine step_id ?_
              rw [show tsum ct n - (csum ct u n + ct i) + ct i = tsum ct n - csum ct u n by omega]
              exact hP
            have := ih (p ++ [i]) (u + 2 ^ i) (w + msum ct (stO sz p 0) u (spL sz p) i n) (P + stepL n sz ct u i) (upS acc P p (fm (cnl n sz ct r u) i)) (uI M1 49 i (nI (spL sz p)))
              (fun r h' => X 191 [.ref (ob 7 0), .int (nI p.length), .int (nI u), .int (nI (spL sz p)), .long (lN w), jk, .int (nI i), .long (lN (msum ct (stO sz p 0) u (spL sz p) i n)), jk, w9] (r ++ []) h' 0 0)
              (by rw [hpl]; omega) (by omega) o2 (fun j hj => ?_) heq (by rw [hpl]; omega) (g0.w _ rfl) (fun j hj hbj => ?_) ?_ ?_
            · rw [hpl, hss] at this
              exact this
            · rw [bit_add hb]
              rcases List.mem_append.mp hj with z | z
              · exact ⟨(hpu j z).1, by rw [(hpu j z).2]; rfl⟩
              · rw [List.mem_singleton.mp z]
                exact ⟨hin, by simp⟩
            · rw [uI_1]
              by_cases ej : j = i
              · rw [if_pos ⟨rfl, ej⟩, ej, hnew]
              · rw [if_neg (fun z => ej z.2)]
                rw [bit_add hb] at hbj
                have hbj' : u.testBit j = true := by
                  cases hq : u.testBit j with
                  | true => rfl
                  | false =>
                    rw [hq] at hbj
                    simp at hbj
                    exact absurd hbj.symm ej
                rw [hsame j hbj']
                exact g1 j hj hbj'
            · cases hq : upS acc P p (fm (cnl n sz ct r u) i) with
              | none =>
                rw [hq] at g2
                exact g2
              | some x =>
                rw [hq] at g2
                obtain ⟨a1, a2, a3⟩ := g2
                exact ⟨a1, a2, fun j hj => by rw [uI_1, if_neg (by omega)]; exact a3 j hj⟩
            · intro M2 f0 f1 f2
              refine k191 M2 _ _ _ f0 (fun j hj hbj => ?_) ?_
              · rw [f1 j hj (by rw [bit_add hb, hbj]; rfl)]
                exact congrArg nI (hsame j hbj)
              · show AccL n sz M2 (upS acc P p (fmO (fm (cnl n sz ct r u) i) (cnl n sz ct r u i)))
                rw [upS_fmO, e]
                have hsh : ∀ y : Nat × List Nat, sh (P + stepL n sz ct u i) (p ++ [i]) y = sh P p (stepL n sz ct u i + y.1, i :: y.2) := by
                  intro y
                  unfold sh
                  rw [List.append_assoc, Nat.add_assoc]
                  rfl
                show AccL n sz M2 (upO _ (sh P p _))
                rw [← hsh]
                exact f2
          have k98 : ∀ m j w9', j + m = n → w9' = nI j → X 98 [.ref (ob 7 0), .int (nI p.length), .int (nI u), .int (nI (spL sz p)), .long (lN w), jk, .int (nI i), .long (lN (msum ct (stO sz p 0) u (spL sz p) i j)), jk, .int w9'] [] (pm c M1) 0 0 := by
            intro m
            induction m with
            | zero =>
              intro j w9' hj e9
              subst e9
              obtain rfl : j = n := by omega
              apply h98
              simp only [B_X7_lays_98, o_il, o_al, o_gf, o_ic2, o_ii, o_ic, o_ll, o_iald, o_i2l, o_jj, o_ls, nth_9, nth_0, nth_2, nth_7, nth_6, nth_3, lsq_7, mV_7_42, al_7, hs.a7, rm_7, ix_7, mV_7_44, hs.p44, kd_48, ix_48, hs.l48, rm_48, wm_48, mV_7_45, hs.p45, kd_49, ix_49, hs.l49, rm_49, wm_49, cats_nil, cats_cons, rf_s, rf_n, isR_r, isR_n, isR_rf, cat_i, cat_l, cat_r, cat_n, cat_rf, unl_i, unl_l, unl_r, unl_n, unl_j, unl_rf, orf_r, orf_n, orf_rf, rf_null, mA_pm, mL_pm, mP_pm, List.length_cons, List.length_nil, List.cons_append, List.nil_append, Nat.reduceAdd, Nat.reduceLeDiff, Nat.reduceLT, Nat.reduceEqDiff, Nat.zero_add, Nat.add_zero, Nat.le_refl, Nat.zero_le, true_and, and_true, true_or, or_true, false_or, or_false, reduceIte, show M1.1 7 42 = nI j by rw [g0.s42]; exact hLn]
              exact ⟨fun _ => k156 _, fun z => absurd (nI_le (by omega) (by omega)) z⟩
            | succ m ihj =>
              intro j w9' hj e9
              subst e9
              have hjn : j < n := by omega
              have hj8 : j < 8 := by omega
              obtain ⟨y1, y2, y3, y4⟩ := hL j hjn
              have k150 : X 150 [.ref (ob 7 0), .int (nI p.length), .int (nI u), .int (nI (spL sz p)), .long (lN w), jk, .int (nI i), .long (lN (msum ct (stO sz p 0) u (spL sz p) i (j + 1))), jk, .int (nI j)] [] (pm c M1) 0 0 := by
                apply h150
                simp only [B_X7_lays_150, o_inc, nth_9, lset_9, cats_nil, cats_cons, rf_s, rf_n, isR_r, isR_n, isR_rf, cat_i, cat_l, cat_r, cat_n, cat_rf, unl_i, unl_l, unl_r, unl_n, unl_j, unl_rf, orf_r, orf_n, orf_rf, rf_null, mA_pm, mL_pm, mP_pm, List.length_cons, List.length_nil, List.cons_append, List.nil_append, Nat.reduceAdd, Nat.reduceLeDiff, Nat.reduceLT, Nat.reduceEqDiff, Nat.zero_add, Nat.add_zero, Nat.le_refl, Nat.zero_le, true_and, and_true, true_or, or_true, false_or, or_false, reduceIte, nI_1]
                exact ihj (j + 1) _ (by omega) rfl
              apply h98
              simp only [B_X7_lays_98, o_il, o_al, o_gf, o_ic2, o_ii, o_ic, o_ll, o_iald, o_i2l, o_jj, o_ls, nth_9, nth_0, nth_2, nth_7, nth_6, nth_3, lsq_7, mV_7_42, al_7, hs.a7, rm_7, ix_7, mV_7_44, hs.p44, kd_48, ix_48, hs.l48, rm_48, wm_48, mV_7_45, hs.p45, kd_49, ix_49, hs.l49, rm_49, wm_49, cats_nil, cats_cons, rf_s, rf_n, isR_r, isR_n, isR_rf, cat_i, cat_l, cat_r, cat_n, cat_rf, unl_i, unl_l, unl_r, unl_n, unl_j, unl_rf, orf_r, orf_n, orf_rf, rf_null, mA_pm, mL_pm, mP_pm, List.length_cons, List.length_nil, List.cons_append, List.nil_append, Nat.reduceAdd, Nat.reduceLeDiff, Nat.reduceLT, Nat.reduceEqDiff, Nat.zero_add, Nat.add_zero, Nat.le_refl, Nat.zero_le, true_and, and_true, true_or, or_true, false_or, or_false, reduceIte, show M1.1 7 42 = nI n by rw [g0.s42]; exact hLn, vin hj8, ncl hj8, vin hi8, ncl hi8, show M1.1 48 i = nI (ct i) by rw [g0.r48]; exact l3, show M1.1 48 j = nI (ct j) by rw [g0.r48]; exact y3]
              refine ⟨fun z => absurd z (by rw [nI_le_iff]; omega), fun _ => ⟨fun z => ?_, fun z => ?_⟩⟩
              · have hbj := (bit_t u hu j hj8).mp z
                have hst : stO sz p 0 j ≤ spL sz p := by
                  have := stO_le (sz := sz) (j := j) p 0
                  omega
                have em : msum ct (stO sz p 0) u (spL sz p) i (j + 1) = msum ct (stO sz p 0) u (spL sz p) i j + ct j * ct i * (spL sz p - stO sz p 0 j) := by
                  show _ + (if u.testBit j = true then _ else _) = _
                  rw [if_pos hbj]
                rw [g1 j hjn hbj, pk_sub hst, nI_l (by omega), nI_l (by omega), nI_l (by omega), lN_mul, lN_mul, lN_add, ← em]
                exact k150
              · have em : msum ct (stO sz p 0) u (spL sz p) i (j + 1) = msum ct (stO sz p 0) u (spL sz p) i j := by
                  show _ + (if u.testBit j = true then _ else _) = _
                  rw [if_neg (fun y => z ((bit_t u hu j hj8).mpr y))]
                  rfl
                rw [em] at k150
                exact k150
          apply h92
          simp only [B_X7_lays_92, o_lc, o_ls, o_ic, o_is, lsq_7, lset_9, cats_nil, cats_cons, rf_s, rf_n, isR_r, isR_n, isR_rf, cat_i, cat_l, cat_r, cat_n, cat_rf, unl_i, unl_l, unl_r, unl_n, unl_j, unl_rf, orf_r, orf_n, orf_rf, rf_null, mA_pm, mL_pm, mP_pm, List.length_cons, List.length_nil, List.cons_append, List.nil_append, Nat.reduceAdd, Nat.reduceLeDiff, Nat.reduceLT, Nat.reduceEqDiff, Nat.zero_add, Nat.add_zero, Nat.le_refl, Nat.zero_le, true_and, and_true, true_or, or_true, false_or, or_false, reduceIte]
          exact k98 n 0 _ (by omega) rfl
    have k20 : X 20 [.ref (ob 7 0), .int (nI p.length), .int (nI u), .int (nI (spL sz p)), .long (lN w), jk, jk, jk, jk, jk] [] (pm c M') 0 0 := by
      apply h20
      simp only [B_X7_lays_20, o_il, o_al, o_gf, o_ic2, o_ll, o_pJ, o_ic, o_is, nth_1, nth_0, nth_4, lset_6, mV_7_42, al_7, hs.a7, rm_7, ix_7, wm_7, wmJ_7, cats_nil, cats_cons, rf_s, rf_n, isR_r, isR_n, isR_rf, cat_i, cat_l, cat_r, cat_n, cat_rf, unl_i, unl_l, unl_r, unl_n, unl_j, unl_rf, orf_r, orf_n, orf_rf, rf_null, mA_pm, mL_pm, mP_pm, List.length_cons, List.length_nil, List.cons_append, List.nil_append, Nat.reduceAdd, Nat.reduceLeDiff, Nat.reduceLT, Nat.reduceEqDiff, Nat.zero_add, Nat.add_zero, Nat.le_refl, Nat.zero_le, true_and, and_true, true_or, or_true, false_or, or_false, reduceIte, show M'.1 7 42 = nI n by rw [hS.s42]; exact hLn]
      refine ⟨fun q => absurd q (by rw [nI_eq_iff]; omega), fun _ => ?_⟩
      apply h67
      simp only [B_X7_lays_67, o_ic, o_is, lset_6, cats_nil, cats_cons, rf_s, rf_n, isR_r, isR_n, isR_rf, cat_i, cat_l, cat_r, cat_n, cat_rf, unl_i, unl_l, unl_r, unl_n, unl_j, unl_rf, orf_r, orf_n, orf_rf, rf_null, mA_pm, mL_pm, mP_pm, List.length_cons, List.length_nil, List.cons_append, List.nil_append, Nat.reduceAdd, Nat.reduceLeDiff, Nat.reduceLT, Nat.reduceEqDiff, Nat.zero_add, Nat.add_zero, Nat.le_refl, Nat.zero_le, true_and, and_true, true_or, or_true, false_or, or_false, reduceIte]
      exact k70 n 0 M' _ _ _ (by omega) hS h49 hA
    apply h0
    simp only [B_X7_lays_0, o_al, o_gf, o_lc, o_lcmp, o_if, o_ll, o_vret, nth_0, nth_4, mV_7_47, al_7, hs.a7, rmJ_7, ix_7, cats_nil, cats_cons, rf_s, rf_n, isR_r, isR_n, isR_rf, cat_i, cat_l, cat_r, cat_n, cat_rf, unl_i, unl_l, unl_r, unl_n, unl_j, unl_rf, orf_r, orf_n, orf_rf, rf_null, mA_pm, mL_pm, mP_pm, List.length_cons, List.length_nil, List.cons_append, List.nil_append, Nat.reduceAdd, Nat.reduceLeDiff, Nat.reduceLT, Nat.reduceEqDiff, Nat.zero_add, Nat.add_zero, Nat.le_refl, Nat.zero_le, true_and, and_true, true_or, or_true, false_or, or_false, reduceIte, lg_lt0]
    cases hacc : acc with
    | none =>
      rw [hacc] at hA
      have hA' : M'.2 7 47 = -1 := hA
      rw [hA']
      refine ⟨fun _ => k20, fun z => absurd (by decide) z⟩
    | some x =>
      rw [hacc] at hA
      obtain ⟨a1, a2, a3⟩ := hA
      rw [a1]
      refine ⟨fun z => absurd z (by rw [show (0 : Int64) = lN 0 from rfl, pk_lLT (by omega) (by omega)]; omega), fun _ => ⟨fun z => k20, fun z => ?_⟩⟩
      rw [pk_lLT (by omega) (by omega)] at z
      refine H M' hS h49 ?_
      rw [upS_keep hacc (by omega), hacc]
      exact ⟨a1, a2, a3⟩
end ZM16
