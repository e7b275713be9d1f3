/-! The model: a reader breaks, begins, works -/
/-- what an order hangs on -/
def AG (M M' : MD) : Prop := ∀ k i, (k == 22 || k == 23 || k == 25 || k == 26 || k == 27 || k == 28 || k == 30) = true → M'.1 k i = M.1 k i
theorem AG.rf (M : MD) : AG M M := fun _ _ _ => rfl
theorem AG.tr {M M1 M2 : MD} (h : AG M M1) (g : AG M1 M2) : AG M M2 := fun k i q => (g k i q).trans (h k i q)
theorem AG.w {M M1 : MD} (h : AG M M1) {k i : Nat} (x : Int32) (hk : (k == 22 || k == 23 || k == 25 || k == 26 || k == 27 || k == 28 || k == 30) = false) : AG M (uI M1 k i x) := fun a b q => by rw [uI_1, if_neg (fun z => by rw [z.1, hk] at q; cases q)]; exact h a b q
theorem AG_sc {M M' : MD} (h : SC M M') : AG M M' := fun k i q => h.1 k i (by
  simp only [Bool.or_eq_true, beq_iff_eq] at q
  rcases q with (((((rfl | rfl) | rfl) | rfl) | rfl) | rfl) | rfl <;> rfl)
theorem fromF_ag {M M' : MD} (h : AG M M') (k : Nat) : fromF M' k = fromF M k := by unfold fromF; rw [h 25 k rfl, h 27 k rfl]
theorem toF_ag {M M' : MD} (h : AG M M') (k : Nat) : toF M' k = toF M k := by unfold toF; rw [h 25 k rfl, h 26 k rfl, h 28 k rfl, h 27 k rfl, h 22 _ rfl]
theorem gl_ag {M M' : MD} (h : AG M M') (t k : Nat) : gl M' t k = gl M t k := gl_cong (fun i _ => ⟨h 26 i rfl, h 30 i rfl⟩)
theorem frN_ag {M M' : MD} (h : AG M M') (k : Nat) : frN M' k = frN M k := by unfold frN; rw [fromF_ag h]
theorem toN_ag {M M' : MD} (h : AG M M') (k : Nat) : toN M' k = toN M k := by unfold toN; rw [toF_ag h]
theorem hdN_ag {M M' : MD} (h : AG M M') (k : Nat) : hdN M' k = hdN M k := by unfold hdN; rw [h 23 k rfl]
theorem oL_ag {M M' : MD} (h : AG M M') (t k i : Nat) : oL M' t k i = oL M t k i := by unfold oL; rw [gl_ag h]
theorem oV_ag {M M' : MD} (h : AG M M') (t k : Nat) (wt : Bool) : oV M' t k wt = oV M t k wt := by
  unfold oV
  rw [gl_ag h, hdN_ag h, show (fun i => frN M' (oL M' t k i)) = (fun i => frN M (oL M t k i)) from funext fun i => by rw [oL_ag h, frN_ag h], show (fun i => toN M' (oL M' t k i)) = (fun i => toN M (oL M t k i)) from funext fun i => by rw [oL_ag h, toN_ag h]]
theorem oS_ag {M M' : MD} (h : AG M M') (t k i : Nat) : oS M' t k i = oS M t k i := by unfold oS; rw [oV_ag h, oL_ag h]
theorem GA_ag {M M' : MD} (h : AG M M') {nT nA : Nat} (g : GA M nT nA) : GA M' nT nA := by
  intro k hk
  obtain ⟨t, p, g1, g2, g3, g4, g5, g6, g7, g8⟩ := g k hk
  exact ⟨t, p, g1, by rw [h 26 k rfl]; exact g2, by rw [fromF_ag h, frN_ag h]; exact g3, by rw [toF_ag h, toN_ag h]; exact g4, by rw [frN_ag h, toN_ag h]; exact g5, by rw [h 22 t rfl]; exact g6, g7, by rw [toN_ag h]; exact g8⟩
theorem GH_ag {M M' : MD} (h : AG M M') {nT : Nat} (g : GH M nT) : GH M' nT := fun t ht => by rw [h 23 t rfl, hdN_ag h]; exact g t ht
theorem oS_lt {M : MD} {t nA i : Nat} (hi : i < (gl M t nA).length) : oS M t nA i < nA ∧ M.1 26 (oS M t nA i) = nI t ∧ M.1 30 (oS M t nA i) = 0 := by
  have hO := oV_len (M := M) (t := t) (nA := nA) (wt := false)
  have h1 : i < (oV M t nA false).2.length := by rw [hO.1]; exact hi
  refine oL_mem (hO.2 _ ?_)
  rw [List.getD_eq_getElem?_getD, List.getElem?_eq_getElem h1]
  exact List.getElem_mem h1
/-- a reader's work -/
def wkN (M : MD) (k : Nat) : Nat := (M.1 39 k).toNatClampNeg
def wkL (M : MD) (k i : Nat) : Nat := (M.1 38 (8 * k + i)).toNatClampNeg
def GW (M : MD) (nR nA : Nat) : Prop := ∀ k, k < nR → M.1 39 k = nI (wkN M k) ∧ wkN M k ≤ 8 ∧ ∀ i, i < wkN M k → M.1 38 (8 * k + i) = nI (wkL M k i) ∧ wkL M k i < nA
def setW (M : MD) (f : Nat → Nat) (v : Int32) : Nat → MD
  | 0 => M
  | n + 1 => uI (setW M f v n) 30 (f n) v
theorem setW_sc {M M' : MD} (h : SC M M') (f : Nat → Nat) (v : Int32) : ∀ n, SC (setW M f v n) (setW M' f v n)
  | 0 => h
  | n + 1 => (setW_sc h f v n).u 30 (f n) v
theorem setW_ne (M : MD) (f : Nat → Nat) (v : Int32) {k : Nat} (hk : k ≠ 30) (i : Nat) : ∀ n, (setW M f v n).1 k i = M.1 k i
  | 0 => rfl
  | n + 1 => by
    show (uI (setW M f v n) 30 (f n) v).1 k i = _
    rw [uI_1, if_neg (fun z => hk z.1)]
    exact setW_ne M f v hk i n
theorem setW_2 (M : MD) (f : Nat → Nat) (v : Int32) : ∀ n, (setW M f v n).2 = M.2
  | 0 => rfl
  | n + 1 => setW_2 M f v n
def breaksM (M : MD) (k : Nat) : MD := uI (uI (uI (setW M (wkL M k) 0 (wkN M k)) 39 k 0) 40 k 0) 36 k 4
def setB (M : MD) (f : Nat → Nat) (k : Nat) : Nat → MD
  | 0 => M
  | n + 1 => uI (uI (setB M f k n) 38 (8 * k + n) (nI (f n))) 30 (f n) 1
theorem setB_sc {M M' : MD} (h : SC M M') (f : Nat → Nat) (k : Nat) : ∀ n, SC (setB M f k n) (setB M' f k n)
  | 0 => h
  | n + 1 => ((setB_sc h f k n).u 38 (8 * k + n) (nI (f n))).u 30 (f n) 1
def beginsM (M : MD) (k t nA : Nat) : MD := setB (uI (uI (uI (uI (uI (uI M 36 k 2) 37 k (nI t)) 24 t 2) 39 k (nI (gl M t nA).length)) 40 k 0) 41 k 0) (oS M t nA) k (gl M t nA).length
section ZM8
variable {l : Launch} {D : DD} {d : Nat} {c : HP} {M : MD} {Q : List Value → HP → Prop}
theorem sp_breaks (hs : SKM c) {nR nA : Nat} (hR : M.1 7 26 = nI nR) (hR2 : nR ≤ 3) (hA2 : nA ≤ 150) (hW : GW M nR nA) (x : Int32) (H : ∀ r M', (∃ k, k < nR ∧ x = nI k ∧ ¬ M.1 36 k = 1 ∧ ¬ M.1 36 k = 4 ∧ r = 1 ∧ SC (breaksM M k) M') ∨ ((∀ k, k < nR → x = nI k → M.1 36 k = 1 ∨ M.1 36 k = 4) ∧ r = 0 ∧ SC M M') → Q [.int r] (pm c M')) : K_X7_breaks l D (d + 3) [.ref (ob 7 0), .int x] (pm c M) Q := by
  refine m_X7_breaks (lsA := [.ref (ob 7 0), .int x, jk]) rfl (Nat.le_of_ble_eq_true rfl) ?_
  intro X h0 h33 h35 h37 h70
  have hsc : SC M (uI M 7 0 0) := (SC.rf M).w 0 rfl
  have k33 : ∀ ls, (∀ k, k < nR → x = nI k → M.1 36 k = 1 ∨ M.1 36 k = 4) → X 33 ls [] (pm c (uI M 7 0 0)) 0 0 := by
    intro ls q
    apply h33
    simp only [B_X7_breaks_33, o_ic, o_zret, cats_nil, cats_cons, rf_s, rf_n, isR_r, isR_n, isR_rf, cat_i, cat_l, cat_r, cat_n, cat_rf, unl_i, unl_l, unl_r, unl_n, unl_j, unl_rf, orf_r, orf_n, orf_rf, rf_null, mA_pm, mL_pm, mP_pm, List.length_cons, List.length_nil, List.cons_append, List.nil_append, Nat.reduceAdd, Nat.reduceLeDiff, Nat.reduceLT, Nat.reduceEqDiff, Nat.zero_add, Nat.add_zero, Nat.le_refl, Nat.zero_le, true_and, and_true, true_or, or_true, false_or, or_false, reduceIte]
    exact H 0 _ (Or.inr ⟨q, rfl, hsc⟩)
  apply h0
  simp only [B_X7_breaks_0, o_al, o_ic, o_pI, o_il, o_if, o_gf, o_iald, o_ic2, nth_0, nth_1, opV_1, mV_7_28, al_7, hs.a7, hs.p28, kd_36, ix_36, hs.l36, rm_36, wm_36, ix_7, wm_7, wmJ_7, cats_nil, cats_cons, rf_s, rf_n, isR_r, isR_n, isR_rf, cat_i, cat_l, cat_r, cat_n, cat_rf, unl_i, unl_l, unl_r, unl_n, unl_j, unl_rf, orf_r, orf_n, orf_rf, rf_null, mA_pm, mL_pm, mP_pm, List.length_cons, List.length_nil, List.cons_append, List.nil_append, Nat.reduceAdd, Nat.reduceLeDiff, Nat.reduceLT, Nat.reduceEqDiff, Nat.zero_add, Nat.add_zero, Nat.le_refl, Nat.zero_le, true_and, and_true, true_or, or_true, false_or, or_false, reduceIte]
  refine sp_isReader hs _ ?_
  simp only [o_al, o_ic, o_pI, o_il, o_if, o_gf, o_iald, o_ic2, nth_0, nth_1, opV_1, mV_7_28, al_7, hs.a7, hs.p28, kd_36, ix_36, hs.l36, rm_36, wm_36, ix_7, wm_7, wmJ_7, cats_nil, cats_cons, rf_s, rf_n, isR_r, isR_n, isR_rf, cat_i, cat_l, cat_r, cat_n, cat_rf, unl_i, unl_l, unl_r, unl_n, unl_j, unl_rf, orf_r, orf_n, orf_rf, rf_null, mA_pm, mL_pm, mP_pm, List.length_cons, List.length_nil, List.cons_append, List.nil_append, Nat.reduceAdd, Nat.reduceLeDiff, Nat.reduceLT, Nat.reduceEqDiff, Nat.zero_add, Nat.add_zero, Nat.le_refl, Nat.zero_le, true_and, and_true, true_or, or_true, false_or, or_false, reduceIte, uI_1, hR, Nat.reduceEqDiff, and_false]
  refine ⟨fun q => k33 _ (fun k hk hx => absurd (by rw [hx]; exact in_nI' hk (by omega)) (bi_e0 q)), fun q => ?_⟩
  obtain ⟨k, hk, rfl⟩ := in_nI (by omega) (bi_ne0 q)
  have hk3 : k < 3 := by omega
  have kk : ∀ k', nI k = nI k' → k' < nR → k = k' := fun k' h1 h2 => by rw [nI_eq_iff] at h1; exact h1
  obtain ⟨w1, w2, w3⟩ := hW k hk
  simp only [o_al, o_ic, o_pI, o_il, o_if, o_gf, o_iald, o_ic2, nth_0, nth_1, opV_1, mV_7_28, al_7, hs.a7, hs.p28, kd_36, ix_36, hs.l36, rm_36, wm_36, ix_7, wm_7, wmJ_7, cats_nil, cats_cons, rf_s, rf_n, isR_r, isR_n, isR_rf, cat_i, cat_l, cat_r, cat_n, cat_rf, unl_i, unl_l, unl_r, unl_n, unl_j, unl_rf, orf_r, orf_n, orf_rf, rf_null, mA_pm, mL_pm, mP_pm, List.length_cons, List.length_nil, List.cons_append, List.nil_append, Nat.reduceAdd, Nat.reduceLeDiff, Nat.reduceLT, Nat.reduceEqDiff, Nat.zero_add, Nat.add_zero, Nat.le_refl, Nat.zero_le, true_and, and_true, true_or, or_true, false_or, or_false, reduceIte, uI_1, Nat.reduceEqDiff, and_false, false_and, vin hk3, ncl hk3]
  refine ⟨fun q2 => k33 _ (fun k' h1 h2 => by rw [← kk k' h2 h1]; exact Or.inl q2), fun q2 => ⟨fun q3 => k33 _ (fun k' h1 h2 => by rw [← kk k' h2 h1]; exact Or.inr q3), fun q3 => ?_⟩⟩
  have loop : ∀ m i M1, i + m = wkN M k → SC (setW M (wkL M k) 0 i) M1 → X 37 [.ref (ob 7 0), .int (nI k), .int (nI i)] [] (pm c M1) 0 0 := by
    intro m
    induction m with
    | zero =>
      intro i M1 hi g
      have r39 : M1.1 39 k = nI (wkN M k) := by rw [g.r39, setW_ne _ _ _ (by decide)]; exact w1
      apply h37
      simp only [B_X7_breaks_37, o_il, o_al, o_gf, o_iald, o_ic2, o_ic, o_ii, o_iast, o_inc, nth_2, nth_0, nth_1, lset_2, mV_7_31, al_7, hs.a7, hs.p31, kd_39, ix_39, hs.l39, rm_39, wm_39, ix_7, mV_7_17, hs.p17, kd_30, ix_30, hs.l30, rm_30, wm_30, mV_7_30, hs.p30, kd_38, ix_38, hs.l38, rm_38, wm_38, cats_nil, cats_cons, rf_s, rf_n, isR_r, isR_n, isR_rf, cat_i, cat_l, cat_r, cat_n, cat_rf, unl_i, unl_l, unl_r, unl_n, unl_j, unl_rf, orf_r, orf_n, orf_rf, rf_null, mA_pm, mL_pm, mP_pm, List.length_cons, List.length_nil, List.cons_append, List.nil_append, Nat.reduceAdd, Nat.reduceLeDiff, Nat.reduceLT, Nat.reduceEqDiff, Nat.zero_add, Nat.add_zero, Nat.le_refl, Nat.zero_le, true_and, and_true, true_or, or_true, false_or, or_false, reduceIte, vin hk3, ncl hk3, r39]
      refine ⟨fun _ => ?_, fun z => absurd (nI_le (by omega) (by omega)) z⟩
      apply h70
      simp only [B_X7_breaks_70, o_al, o_gf, o_il, o_ic, o_iast, o_zret, nth_0, nth_1, mV_7_31, al_7, hs.a7, hs.p31, kd_39, ix_39, hs.l39, rm_39, wm_39, ix_7, mV_7_32, hs.p32, kd_40, ix_40, hs.l40, rm_40, wm_40, mV_7_28, hs.p28, kd_36, ix_36, hs.l36, rm_36, wm_36, cats_nil, cats_cons, rf_s, rf_n, isR_r, isR_n, isR_rf, cat_i, cat_l, cat_r, cat_n, cat_rf, unl_i, unl_l, unl_r, unl_n, unl_j, unl_rf, orf_r, orf_n, orf_rf, rf_null, mA_pm, mL_pm, mP_pm, List.length_cons, List.length_nil, List.cons_append, List.nil_append, Nat.reduceAdd, Nat.reduceLeDiff, Nat.reduceLT, Nat.reduceEqDiff, Nat.zero_add, Nat.add_zero, Nat.le_refl, Nat.zero_le, true_and, and_true, true_or, or_true, false_or, or_false, reduceIte, vin hk3, ncl hk3]
      refine H 1 _ (Or.inl ⟨k, hk, rfl, q2, q3, rfl, ?_⟩)
      rw [show i = wkN M k by omega] at g
      exact ((g.u 39 k 0).u 40 k 0).u 36 k 4
    | succ m ih =>
      intro i M1 hi g
      have r39 : M1.1 39 k = nI (wkN M k) := by rw [g.r39, setW_ne _ _ _ (by decide)]; exact w1
      have r38 : M1.1 38 (8 * k + i) = nI (wkL M k i) := by rw [g.r38, setW_ne _ _ _ (by decide)]; exact (w3 i (by omega)).1
      have h8 : 8 * k + i < 24 := by omega
      have hl := (w3 i (by omega)).2
      have hl2 : wkL M k i < 150 := by omega
      have e8 : (8 : Int32) * nI k + nI i = nI (8 * k + i) := by rw [show (8 : Int32) = nI 8 from rfl, pk_mul, nI_add]
      apply h37
      simp only [B_X7_breaks_37, o_il, o_al, o_gf, o_iald, o_ic2, o_ic, o_ii, o_iast, o_inc, nth_2, nth_0, nth_1, lset_2, mV_7_31, al_7, hs.a7, hs.p31, kd_39, ix_39, hs.l39, rm_39, wm_39, ix_7, mV_7_17, hs.p17, kd_30, ix_30, hs.l30, rm_30, wm_30, mV_7_30, hs.p30, kd_38, ix_38, hs.l38, rm_38, wm_38, cats_nil, cats_cons, rf_s, rf_n, isR_r, isR_n, isR_rf, cat_i, cat_l, cat_r, cat_n, cat_rf, unl_i, unl_l, unl_r, unl_n, unl_j, unl_rf, orf_r, orf_n, orf_rf, rf_null, mA_pm, mL_pm, mP_pm, List.length_cons, List.length_nil, List.cons_append, List.nil_append, Nat.reduceAdd, Nat.reduceLeDiff, Nat.reduceLT, Nat.reduceEqDiff, Nat.zero_add, Nat.add_zero, Nat.le_refl, Nat.zero_le, true_and, and_true, true_or, or_true, false_or, or_false, reduceIte, vin hk3, ncl hk3, r39, e8, vin h8, ncl h8, r38, vin hl2, ncl hl2, nI_1]
      refine ⟨fun z => absurd z (by rw [nI_le_iff]; omega), fun _ => ?_⟩
      exact ih (i + 1) _ (by omega) (g.u 30 (wkL M k i) 0)
  apply h35
  simp only [B_X7_breaks_35, o_ic, o_is, lset_2, cats_nil, cats_cons, rf_s, rf_n, isR_r, isR_n, isR_rf, cat_i, cat_l, cat_r, cat_n, cat_rf, unl_i, unl_l, unl_r, unl_n, unl_j, unl_rf, orf_r, orf_n, orf_rf, rf_null, mA_pm, mL_pm, mP_pm, List.length_cons, List.length_nil, List.cons_append, List.nil_append, Nat.reduceAdd, Nat.reduceLeDiff, Nat.reduceLT, Nat.reduceEqDiff, Nat.zero_add, Nat.add_zero, Nat.le_refl, Nat.zero_le, true_and, and_true, true_or, or_true, false_or, or_false, reduceIte]
  exact loop (wkN M k) 0 _ (by omega) hsc
theorem sp_begins (hs : SKM c) {nT nA k t : Nat} (hA : M.1 7 8 = nI nA) (hA2 : nA ≤ 150) (hT2 : nT ≤ 12) (hk : k < 3) (ht : t < nT) (hG : GA M nT nA) (hH : GH M nT) (H : ∀ M', SC (beginsM M k t nA) M' → Q [] (pm c M')) : K_X7_begins l D (d + 13) [.ref (ob 7 0), .int (nI k), .int (nI t)] (pm c M) Q := by
  refine m_X7_begins (lsA := [.ref (ob 7 0), .int (nI k), .int (nI t), jk]) rfl (Nat.le_of_ble_eq_true rfl) ?_
  intro X h0 h53 h96
  have ht2 : t < 12 := by omega
  have ag : AG M (uI (uI (uI M 36 k 2) 37 k (nI t)) 24 t 2) := (((AG.rf M).w 2 rfl).w _ rfl).w 2 rfl
  have hn := gl_len M t nA
  apply h0
  simp only [B_X7_begins_0, o_al, o_gf, o_il, o_ic, o_iast, o_is, nth_0, nth_1, nth_2, lset_3, opV_2, mV_7_28, al_7, hs.a7, hs.p28, kd_36, ix_36, hs.l36, rm_36, wm_36, ix_7, mV_7_29, hs.p29, kd_37, ix_37, hs.l37, rm_37, wm_37, mV_7_6, hs.p6, kd_24, ix_24, hs.l24, rm_24, wm_24, mV_7_31, hs.p31, kd_39, ix_39, hs.l39, rm_39, wm_39, mV_7_22, rm_7, mV_7_32, hs.p32, kd_40, ix_40, hs.l40, rm_40, wm_40, mV_7_33, hs.p33, kd_41, ix_41, hs.l41, rm_41, wm_41, cats_nil, cats_cons, rf_s, rf_n, isR_r, isR_n, isR_rf, cat_i, cat_l, cat_r, cat_n, cat_rf, unl_i, unl_l, unl_r, unl_n, unl_j, unl_rf, orf_r, orf_n, orf_rf, rf_null, mA_pm, mL_pm, mP_pm, List.length_cons, List.length_nil, List.cons_append, List.nil_append, Nat.reduceAdd, Nat.reduceLeDiff, Nat.reduceLT, Nat.reduceEqDiff, Nat.zero_add, Nat.add_zero, Nat.le_refl, Nat.zero_le, true_and, and_true, true_or, or_true, false_or, or_false, reduceIte, vin hk, ncl hk, vin ht2, ncl ht2]
  refine sp_orders hs (M := uI (uI (uI M 36 k 2) 37 k (nI t)) 24 t 2) (wt := false) (nA := nA) (nT := nT) hA hA2 hT2 ht (GA_ag ag hG) (GH_ag ag hH) (fun M1 hS g1 g2 g3 => ?_)
  rw [gl_ag ag] at g1 g3
  have g3' : ∀ j, j < (gl M t nA).length → M1.1 34 j = nI (oS M t nA j) := fun j hj => by rw [g3 j hj, oV_ag ag, oL_ag ag]; rfl
  have loop : ∀ m i M2, i + m = (gl M t nA).length → SC (setB (uI (uI (uI (uI (uI (uI M 36 k 2) 37 k (nI t)) 24 t 2) 39 k (nI (gl M t nA).length)) 40 k 0) 41 k 0) (oS M t nA) k i) M2 → M2.1 7 22 = nI (gl M t nA).length → (∀ j, j < (gl M t nA).length → M2.1 34 j = nI (oS M t nA j)) → X 53 [.ref (ob 7 0), .int (nI k), .int (nI t), .int (nI i)] [] (pm c M2) 0 0 := by
    intro m
    induction m with
    | zero =>
      intro i M2 hi f0 f1 f2
      apply h53
      simp only [B_X7_begins_53, o_il, o_al, o_gf, o_ic2, o_ic, o_ii, o_iald, o_iast, o_inc, nth_3, nth_0, nth_1, lset_3, mV_7_22, al_7, hs.a7, rm_7, ix_7, mV_7_30, hs.p30, kd_38, ix_38, hs.l38, rm_38, wm_38, mV_7_24, hs.p24, kd_34, ix_34, hs.l34, rm_34, wm_34, mV_7_17, hs.p17, kd_30, ix_30, hs.l30, rm_30, wm_30, cats_nil, cats_cons, rf_s, rf_n, isR_r, isR_n, isR_rf, cat_i, cat_l, cat_r, cat_n, cat_rf, unl_i, unl_l, unl_r, unl_n, unl_j, unl_rf, orf_r, orf_n, orf_rf, rf_null, mA_pm, mL_pm, mP_pm, List.length_cons, List.length_nil, List.cons_append, List.nil_append, Nat.reduceAdd, Nat.reduceLeDiff, Nat.reduceLT, Nat.reduceEqDiff, Nat.zero_add, Nat.add_zero, Nat.le_refl, Nat.zero_le, true_and, and_true, true_or, or_true, false_or, or_false, reduceIte, f1]
      refine ⟨fun _ => ?_, fun z => absurd (nI_le (by omega) (by omega)) z⟩
      apply h96
      simp only [B_X7_begins_96, o_vret, cats_nil, cats_cons, rf_s, rf_n, isR_r, isR_n, isR_rf, cat_i, cat_l, cat_r, cat_n, cat_rf, unl_i, unl_l, unl_r, unl_n, unl_j, unl_rf, orf_r, orf_n, orf_rf, rf_null, mA_pm, mL_pm, mP_pm, List.length_cons, List.length_nil, List.cons_append, List.nil_append, Nat.reduceAdd, Nat.reduceLeDiff, Nat.reduceLT, Nat.reduceEqDiff, Nat.zero_add, Nat.add_zero, Nat.le_refl, Nat.zero_le, true_and, and_true, true_or, or_true, false_or, or_false, reduceIte]
      rw [show i = (gl M t nA).length by omega] at f0
      exact H M2 f0
    | succ m ih =>
      intro i M2 hi f0 f1 f2
      have hil : i < (gl M t nA).length := by omega
      have hi8 : i < 8 := by omega
      have h8 : 8 * k + i < 24 := by omega
      have ho := (oS_lt hil).1
      have ho2 : oS M t nA i < 150 := by omega
      have e8 : (8 : Int32) * nI k + nI i = nI (8 * k + i) := by rw [show (8 : Int32) = nI 8 from rfl, pk_mul, nI_add]
      apply h53
      simp only [B_X7_begins_53, o_il, o_al, o_gf, o_ic2, o_ic, o_ii, o_iald, o_iast, o_inc, nth_3, nth_0, nth_1, lset_3, mV_7_22, al_7, hs.a7, rm_7, ix_7, mV_7_30, hs.p30, kd_38, ix_38, hs.l38, rm_38, wm_38, mV_7_24, hs.p24, kd_34, ix_34, hs.l34, rm_34, wm_34, mV_7_17, hs.p17, kd_30, ix_30, hs.l30, rm_30, wm_30, cats_nil, cats_cons, rf_s, rf_n, isR_r, isR_n, isR_rf, cat_i, cat_l, cat_r, cat_n, cat_rf, unl_i, unl_l, unl_r, unl_n, unl_j, unl_rf, orf_r, orf_n, orf_rf, rf_null, mA_pm, mL_pm, mP_pm, List.length_cons, List.length_nil, List.cons_append, List.nil_append, Nat.reduceAdd, Nat.reduceLeDiff, Nat.reduceLT, Nat.reduceEqDiff, Nat.zero_add, Nat.add_zero, Nat.le_refl, Nat.zero_le, true_and, and_true, true_or, or_true, false_or, or_false, reduceIte, f1, e8, vin hi8, ncl hi8, vin h8, ncl h8, f2 i hil, uI_1, Nat.reduceEqDiff, false_and, vin ho2, ncl ho2, nI_1]
      refine ⟨fun z => absurd z (by rw [nI_le_iff]; omega), fun _ => ?_⟩
      exact ih (i + 1) _ (by omega) ((f0.u 38 (8 * k + i) _).u 30 (oS M t nA i) 1) (by rw [uI_1, if_neg (by omega), uI_1, if_neg (by omega)]; exact f1) (fun j hj => by rw [uI_1, if_neg (by omega), uI_1, if_neg (by omega)]; exact f2 j hj)
  simp only [o_al, o_gf, o_il, o_ic, o_iast, o_is, nth_0, nth_1, nth_2, lset_3, opV_2, mV_7_28, al_7, hs.a7, hs.p28, kd_36, ix_36, hs.l36, rm_36, wm_36, ix_7, mV_7_29, hs.p29, kd_37, ix_37, hs.l37, rm_37, wm_37, mV_7_6, hs.p6, kd_24, ix_24, hs.l24, rm_24, wm_24, mV_7_31, hs.p31, kd_39, ix_39, hs.l39, rm_39, wm_39, mV_7_22, rm_7, mV_7_32, hs.p32, kd_40, ix_40, hs.l40, rm_40, wm_40, mV_7_33, hs.p33, kd_41, ix_41, hs.l41, rm_41, wm_41, cats_nil, cats_cons, rf_s, rf_n, isR_r, isR_n, isR_rf, cat_i, cat_l, cat_r, cat_n, cat_rf, unl_i, unl_l, unl_r, unl_n, unl_j, unl_rf, orf_r, orf_n, orf_rf, rf_null, mA_pm, mL_pm, mP_pm, List.length_cons, List.length_nil, List.cons_append, List.nil_append, Nat.reduceAdd, Nat.reduceLeDiff, Nat.reduceLT, Nat.reduceEqDiff, Nat.zero_add, Nat.add_zero, Nat.le_refl, Nat.zero_le, true_and, and_true, true_or, or_true, false_or, or_false, reduceIte, vin hk, ncl hk, vin ht2, ncl ht2, g1]
  exact loop (gl M t nA).length 0 _ (by omega) (((hS.u 39 k _).u 40 k 0).u 41 k 0) (by rw [uI_1, if_neg (by omega), uI_1, if_neg (by omega), uI_1, if_neg (by omega)]; exact g1) (fun j hj => by rw [uI_1, if_neg (by omega), uI_1, if_neg (by omega), uI_1, if_neg (by omega)]; exact g3' j hj)
end ZM8
