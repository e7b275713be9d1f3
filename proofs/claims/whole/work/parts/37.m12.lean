/-! The model: an arm asks for a job -/
def rtN (M : MD) (i : Nat) : Nat := (M.1 37 i).toNatClampNeg
/-- good readers -/
def GR (M : MD) (nR nT : Nat) : Prop := ∀ i, i < nR → (M.1 37 i = -1 ∧ (M.1 36 i = 0 ∨ M.1 36 i = 4)) ∨ (rtN M i < nT ∧ M.1 37 i = nI (rtN M i) ∧ (M.1 36 i = 1 ∨ M.1 36 i = 2 ∨ M.1 36 i = 3 ∨ M.1 36 i = 4))
def isBk (M : MD) (i : Nat) : Prop := M.1 36 i = 3 ∨ (M.1 36 i = 4 ∧ ¬ M.1 37 i = -1)
def backP (M : MD) (k i : Nat) : Prop := isBk M i ∧ ¬ (M.1 43 0 = M.1 37 i ∨ M.1 43 1 = M.1 37 i) ∧ mayF M k (M.1 35 i) (M.1 20 (rtN M i))
def brM (M : MD) (k t r : Nat) : MD := uI (uI (jobM M k (nI t) (M.1 20 t) (M.1 35 r) (nI r) 1) 36 r 1) 37 r (nI t)
def AjB (M : MD) (k nA : Nat) (M' : MD) (r : Nat) : Prop := ∃ ch, ChR M (M.1 35 r) nA ch ∧ ((∃ t, t < 12 ∧ ch = nI t ∧ mayF M k (M.1 20 t) (M.1 35 r) ∧ M' = brM M k t r) ∨ ((∀ t, t < 12 → ch = nI t → ¬ mayF M k (M.1 20 t) (M.1 35 r)) ∧ M' = M))
def AjR (M : MD) (k nR nA : Nat) (M' : MD) : Prop := (∃ i, i < nR ∧ backP M k i ∧ (∀ j, j < i → ¬ backP M k j) ∧ M' = jobM M k (M.1 37 i) (M.1 35 i) (M.1 20 (rtN M i)) (nI i) 0) ∨ ((∀ j, j < nR → ¬ backP M k j) ∧ (((∀ j, j < nR → ¬ M.1 36 j = 0) ∧ M' = M) ∨ ∃ r, r < nR ∧ M.1 36 r = 0 ∧ (∀ j, j < r → ¬ M.1 36 j = 0) ∧ AjB M k nA M' r))
theorem GR_bk {M : MD} {nR nT i : Nat} (h : GR M nR nT) (hi : i < nR) (q : isBk M i) : rtN M i < nT ∧ M.1 37 i = nI (rtN M i) := by
  rcases h i hi with ⟨h1, h2⟩ | ⟨h1, h2, -⟩
  · rcases q with q | ⟨-, q⟩
    · rcases h2 with h2 | h2 <;> rw [h2] at q <;> exact absurd q (by decide)
    · exact absurd h1 q
  · exact ⟨h1, h2⟩
theorem ChR_v {M : MD} {y : Int32} {nT nA : Nat} {r : Int32} (hT2 : nT ≤ 12) (hG : GA M nT nA) (h : ChR M y nA r) : r = -1 ∨ ∃ t, t < nT ∧ r = nI t := by
  have hv : ∀ k, k < nA → r = M.1 26 k → r = -1 ∨ ∃ t, t < nT ∧ r = nI t := fun k hk e => by
    obtain ⟨t, p, g1, g2, -⟩ := hG k hk
    exact Or.inr ⟨t, g1, e.trans g2⟩
  rcases h with ⟨k, h1, -, -, h2⟩ | ⟨-, ⟨k, h1, -, h2⟩ | ⟨-, ⟨k, h1, -, h2⟩ | ⟨-, h2⟩⟩⟩
  · exact hv k h1 h2
  · exact hv k h1.1 h2
  · exact hv k h1.1 h2
  · exact Or.inl h2
section ZM12
variable {l : Launch} {D : DD} {d : Nat} {c : HP} {M : MD} {Q : List Value → HP → Prop}
theorem sp_asksForJob (hs : SKM c) {nR nT nA k : Nat} (hR : M.1 7 26 = nI nR) (hR2 : nR ≤ 3) (hA : M.1 7 8 = nI nA) (hA2 : nA ≤ 150) (hT2 : nT ≤ 12) (hk : k < 2) (hG : GA M nT nA) (hGR : GR M nR nT) (H : ∀ M', AjR M k nR nA M' → Q [] (pm c M')) : K_X7_asksForJob l D (d + 4) [.ref (ob 7 0), .int (nI k)] (pm c M) Q := by
  refine m_X7_asksForJob (lsA := [.ref (ob 7 0), .int (nI k), jk, jk]) rfl (Nat.le_of_ble_eq_true rfl) ?_
  intro X h0 h2 h40 h44 h45 h91 h122 h128 h130 h153 h162 h218
  have loop2 : (∀ j, j < nR → ¬ backP M k j) → ∀ m i w3, i + m = nR → (∀ j, j < i → ¬ M.1 36 j = 0) → X 130 [.ref (ob 7 0), .int (nI k), .int (nI i), w3] [] (pm c M) 0 0 := by
    intro hb m
    have k153 : ∀ i w3, (i < nR → M.1 36 i = 0) → (∀ j, j < i → ¬ M.1 36 j = 0) → i ≤ nR → X 153 [.ref (ob 7 0), .int (nI k), .int (nI i), w3] [] (pm c M) 0 0 := by
      intro i w3 h1 h2 h3
      apply h153
      simp only [B_X7_asksForJob_153, o_il, o_al, o_gf, o_ic2, o_vret, nth_2, nth_0, mV_7_26, al_7, hs.a7, rm_7, ix_7, cats_nil, cats_cons, rf_s, rf_n, isR_r, isR_n, isR_rf, cat_i, cat_l, cat_r, cat_n, cat_rf, unl_i, unl_l, unl_r, unl_n, unl_j, unl_rf, orf_r, orf_n, orf_rf, rf_null, mA_pm, mL_pm, mP_pm, List.length_cons, List.length_nil, List.cons_append, List.nil_append, Nat.reduceAdd, Nat.reduceLeDiff, Nat.reduceLT, Nat.reduceEqDiff, Nat.zero_add, Nat.add_zero, Nat.le_refl, Nat.zero_le, true_and, and_true, true_or, or_true, false_or, or_false, reduceIte, hR]
      refine ⟨fun z => ?_, fun z => ?_⟩
      · rw [nI_eq_iff] at z
        rw [z] at h2
        exact H M (Or.inr ⟨hb, Or.inl ⟨h2, rfl⟩⟩)
      · rw [nI_eq_iff] at z
        have hi : i < nR := by omega
        have hi3 : i < 3 := by omega
        have hX : ∀ M', AjB M k nA M' i → Q [] (pm c M') := fun M' h => H M' (Or.inr ⟨hb, Or.inr ⟨i, hi, h1 hi, h2, h⟩⟩)
        apply h162
        simp only [B_X7_asksForJob_162, o_al, o_gf, o_il, o_iald, o_is, o_ic, o_ic2, o_if, nth_0, nth_2, lset_3, nth_3, nth_1, opV_1, opV_3, opV_6, mV_7_27, al_7, hs.a7, hs.p27, kd_35, ix_35, hs.l35, rm_35, wm_35, ix_7, mV_7_2, hs.p2, kd_20, ix_20, hs.l20, rm_20, wm_20, cats_nil, cats_cons, rf_s, rf_n, isR_r, isR_n, isR_rf, cat_i, cat_l, cat_r, cat_n, cat_rf, unl_i, unl_l, unl_r, unl_n, unl_j, unl_rf, orf_r, orf_n, orf_rf, rf_null, mA_pm, mL_pm, mP_pm, List.length_cons, List.length_nil, List.cons_append, List.nil_append, Nat.reduceAdd, Nat.reduceLeDiff, Nat.reduceLT, Nat.reduceEqDiff, Nat.zero_add, Nat.add_zero, Nat.le_refl, Nat.zero_le, true_and, and_true, true_or, or_true, false_or, or_false, reduceIte, vin hi3, ncl hi3]
        refine sp_chosen hs hA hA2 hT2 hG _ (fun ch hch => ?_)
        simp only [o_al, o_gf, o_il, o_iald, o_is, o_ic, o_ic2, o_if, nth_0, nth_2, lset_3, nth_3, nth_1, opV_1, opV_3, opV_6, mV_7_27, al_7, hs.a7, hs.p27, kd_35, ix_35, hs.l35, rm_35, wm_35, ix_7, mV_7_2, hs.p2, kd_20, ix_20, hs.l20, rm_20, wm_20, cats_nil, cats_cons, rf_s, rf_n, isR_r, isR_n, isR_rf, cat_i, cat_l, cat_r, cat_n, cat_rf, unl_i, unl_l, unl_r, unl_n, unl_j, unl_rf, orf_r, orf_n, orf_rf, rf_null, mA_pm, mL_pm, mP_pm, List.length_cons, List.length_nil, List.cons_append, List.nil_append, Nat.reduceAdd, Nat.reduceLeDiff, Nat.reduceLT, Nat.reduceEqDiff, Nat.zero_add, Nat.add_zero, Nat.le_refl, Nat.zero_le, true_and, and_true, true_or, or_true, false_or, or_false, reduceIte]
        have k218 : ∀ M' w, AjB M k nA M' i → X 218 [.ref (ob 7 0), .int (nI k), .int (nI i), .int w] [] (pm c M') 0 0 := by
          intro M' w h
          apply h218
          simp only [B_X7_asksForJob_218, o_vret, cats_nil, cats_cons, rf_s, rf_n, isR_r, isR_n, isR_rf, cat_i, cat_l, cat_r, cat_n, cat_rf, unl_i, unl_l, unl_r, unl_n, unl_j, unl_rf, orf_r, orf_n, orf_rf, rf_null, mA_pm, mL_pm, mP_pm, List.length_cons, List.length_nil, List.cons_append, List.nil_append, Nat.reduceAdd, Nat.reduceLeDiff, Nat.reduceLT, Nat.reduceEqDiff, Nat.zero_add, Nat.add_zero, Nat.le_refl, Nat.zero_le, true_and, and_true, true_or, or_true, false_or, or_false, reduceIte]
          exact hX M' h
        refine ⟨fun z2 => ?_, fun z2 => ?_⟩
        · refine k218 M ch ⟨ch, hch, Or.inr ⟨fun t ht e => ?_, rfl⟩⟩
          rw [z2] at e
          exact absurd e.symm (nI_m1 (by omega))
        · rcases ChR_v hT2 hG hch with rfl | ⟨t, ht, rfl⟩
          · exact absurd rfl z2
          · have ht2 : t < 12 := by omega
            simp only [vin ht2, ncl ht2, vin hi3, ncl hi3, true_and]
            refine sp_may hs hk _ _ (fun r hr => ?_)
            simp only [o_al, o_gf, o_il, o_iald, o_is, o_ic, o_ic2, o_if, nth_0, nth_2, lset_3, nth_3, nth_1, opV_1, opV_3, opV_6, mV_7_27, al_7, hs.a7, hs.p27, kd_35, ix_35, hs.l35, rm_35, wm_35, ix_7, mV_7_2, hs.p2, kd_20, ix_20, hs.l20, rm_20, wm_20, cats_nil, cats_cons, rf_s, rf_n, isR_r, isR_n, isR_rf, cat_i, cat_l, cat_r, cat_n, cat_rf, unl_i, unl_l, unl_r, unl_n, unl_j, unl_rf, orf_r, orf_n, orf_rf, rf_null, mA_pm, mL_pm, mP_pm, List.length_cons, List.length_nil, List.cons_append, List.nil_append, Nat.reduceAdd, Nat.reduceLeDiff, Nat.reduceLT, Nat.reduceEqDiff, Nat.zero_add, Nat.add_zero, Nat.le_refl, Nat.zero_le, true_and, and_true, true_or, or_true, false_or, or_false, reduceIte, vin ht2, ncl ht2, vin hi3, ncl hi3]
            rcases hr with ⟨rfl, hr⟩ | ⟨rfl, hr⟩
            · refine ⟨fun z => absurd z (by decide), fun _ => ?_⟩
              refine sp_takesJob hs hk hi3 _ _ _ 1 (Or.inr rfl) ?_
              rw [if_neg (by decide)]
              simp only [o_al, o_gf, o_il, o_iald, o_is, o_ic, o_ic2, o_if, nth_0, nth_2, lset_3, nth_3, nth_1, opV_1, opV_3, opV_6, mV_7_27, al_7, hs.a7, hs.p27, kd_35, ix_35, hs.l35, rm_35, wm_35, ix_7, mV_7_2, hs.p2, kd_20, ix_20, hs.l20, rm_20, wm_20, cats_nil, cats_cons, rf_s, rf_n, isR_r, isR_n, isR_rf, cat_i, cat_l, cat_r, cat_n, cat_rf, unl_i, unl_l, unl_r, unl_n, unl_j, unl_rf, orf_r, orf_n, orf_rf, rf_null, mA_pm, mL_pm, mP_pm, List.length_cons, List.length_nil, List.cons_append, List.nil_append, Nat.reduceAdd, Nat.reduceLeDiff, Nat.reduceLT, Nat.reduceEqDiff, Nat.zero_add, Nat.add_zero, Nat.le_refl, Nat.zero_le, true_and, and_true, true_or, or_true, false_or, or_false, reduceIte]
              exact k218 _ _ ⟨_, hch, Or.inl ⟨t, ht2, rfl, hr, rfl⟩⟩
            · refine ⟨fun _ => ?_, fun z => by first | exact absurd rfl z | exact absurd trivial z⟩
              refine k218 M _ ⟨_, hch, Or.inr ⟨fun t' ht' e => ?_, rfl⟩⟩
              rw [nI_eq_iff] at e
              rw [← e]
              exact hr
    induction m with
    | zero =>
      intro i w3 hi h
      apply h130
      simp only [B_X7_asksForJob_130, o_il, o_al, o_gf, o_ic2, o_iald, o_if, o_inc, nth_2, nth_0, lset_2, mV_7_26, al_7, hs.a7, rm_7, ix_7, mV_7_28, hs.p28, kd_36, ix_36, hs.l36, rm_36, wm_36, cats_nil, cats_cons, rf_s, rf_n, isR_r, isR_n, isR_rf, cat_i, cat_l, cat_r, cat_n, cat_rf, unl_i, unl_l, unl_r, unl_n, unl_j, unl_rf, orf_r, orf_n, orf_rf, rf_null, mA_pm, mL_pm, mP_pm, List.length_cons, List.length_nil, List.cons_append, List.nil_append, Nat.reduceAdd, Nat.reduceLeDiff, Nat.reduceLT, Nat.reduceEqDiff, Nat.zero_add, Nat.add_zero, Nat.le_refl, Nat.zero_le, true_and, and_true, true_or, or_true, false_or, or_false, reduceIte, hR]
      refine ⟨fun _ => k153 i w3 (fun z => by omega) h (by omega), fun z => absurd (nI_le (by omega) (by omega)) z⟩
    | succ m ih =>
      intro i w3 hi h
      have hi3 : i < 3 := by omega
      apply h130
      simp only [B_X7_asksForJob_130, o_il, o_al, o_gf, o_ic2, o_iald, o_if, o_inc, nth_2, nth_0, lset_2, mV_7_26, al_7, hs.a7, rm_7, ix_7, mV_7_28, hs.p28, kd_36, ix_36, hs.l36, rm_36, wm_36, cats_nil, cats_cons, rf_s, rf_n, isR_r, isR_n, isR_rf, cat_i, cat_l, cat_r, cat_n, cat_rf, unl_i, unl_l, unl_r, unl_n, unl_j, unl_rf, orf_r, orf_n, orf_rf, rf_null, mA_pm, mL_pm, mP_pm, List.length_cons, List.length_nil, List.cons_append, List.nil_append, Nat.reduceAdd, Nat.reduceLeDiff, Nat.reduceLT, Nat.reduceEqDiff, Nat.zero_add, Nat.add_zero, Nat.le_refl, Nat.zero_le, true_and, and_true, true_or, or_true, false_or, or_false, reduceIte, hR, vin hi3, ncl hi3, nI_1]
      refine ⟨fun z => absurd z (by rw [nI_le_iff]; omega), fun _ => ⟨fun q => k153 i w3 (fun _ => q) h (by omega), fun q => ?_⟩⟩
      exact ih (i + 1) w3 (by omega) (nx h q)
  have loop : ∀ m i w3, i + m = nR → (∀ j, j < i → ¬ backP M k j) → X 2 [.ref (ob 7 0), .int (nI k), .int (nI i), w3] [] (pm c M) 0 0 := by
    intro m
    induction m with
    | zero =>
      intro i w3 hi h
      apply h2
      simp only [B_X7_asksForJob_2, o_il, o_al, o_gf, o_ic2, o_iald, o_ic, nth_2, nth_0, mV_7_26, al_7, hs.a7, rm_7, ix_7, mV_7_28, hs.p28, kd_36, ix_36, hs.l36, rm_36, wm_36, mV_7_29, hs.p29, kd_37, ix_37, hs.l37, rm_37, wm_37, cats_nil, cats_cons, rf_s, rf_n, isR_r, isR_n, isR_rf, cat_i, cat_l, cat_r, cat_n, cat_rf, unl_i, unl_l, unl_r, unl_n, unl_j, unl_rf, orf_r, orf_n, orf_rf, rf_null, mA_pm, mL_pm, mP_pm, List.length_cons, List.length_nil, List.cons_append, List.nil_append, Nat.reduceAdd, Nat.reduceLeDiff, Nat.reduceLT, Nat.reduceEqDiff, Nat.zero_add, Nat.add_zero, Nat.le_refl, Nat.zero_le, true_and, and_true, true_or, or_true, false_or, or_false, reduceIte, hR]
      refine ⟨fun _ => ?_, fun z => absurd (nI_le (by omega) (by omega)) z⟩
      apply h128
      simp only [B_X7_asksForJob_128, o_ic, o_is, lset_2, cats_nil, cats_cons, rf_s, rf_n, isR_r, isR_n, isR_rf, cat_i, cat_l, cat_r, cat_n, cat_rf, unl_i, unl_l, unl_r, unl_n, unl_j, unl_rf, orf_r, orf_n, orf_rf, rf_null, mA_pm, mL_pm, mP_pm, List.length_cons, List.length_nil, List.cons_append, List.nil_append, Nat.reduceAdd, Nat.reduceLeDiff, Nat.reduceLT, Nat.reduceEqDiff, Nat.zero_add, Nat.add_zero, Nat.le_refl, Nat.zero_le, true_and, and_true, true_or, or_true, false_or, or_false, reduceIte]
      rw [show i = nR by omega] at h
      exact loop2 h nR 0 w3 (by omega) (fun j hj => by omega)
    | succ m ih =>
      intro i w3 hi h
      have hi3 : i < 3 := by omega
      have hin : i < nR := by omega
      have k122 : ¬ backP M k i → ∀ w3, X 122 [.ref (ob 7 0), .int (nI k), .int (nI i), w3] [] (pm c M) 0 0 := by
        intro q w3
        apply h122
        simp only [B_X7_asksForJob_122, o_inc, nth_2, lset_2, cats_nil, cats_cons, rf_s, rf_n, isR_r, isR_n, isR_rf, cat_i, cat_l, cat_r, cat_n, cat_rf, unl_i, unl_l, unl_r, unl_n, unl_j, unl_rf, orf_r, orf_n, orf_rf, rf_null, mA_pm, mL_pm, mP_pm, List.length_cons, List.length_nil, List.cons_append, List.nil_append, Nat.reduceAdd, Nat.reduceLeDiff, Nat.reduceLT, Nat.reduceEqDiff, Nat.zero_add, Nat.add_zero, Nat.le_refl, Nat.zero_le, true_and, and_true, true_or, or_true, false_or, or_false, reduceIte, nI_1]
        exact ih (i + 1) w3 (by omega) (nx h q)
      have k44 : ¬ isBk M i → X 44 [.ref (ob 7 0), .int (nI k), .int (nI i), w3] [] (pm c M) 0 0 := by
        intro q
        apply h44
        simp only [B_X7_asksForJob_44, o_ic, cats_nil, cats_cons, rf_s, rf_n, isR_r, isR_n, isR_rf, cat_i, cat_l, cat_r, cat_n, cat_rf, unl_i, unl_l, unl_r, unl_n, unl_j, unl_rf, orf_r, orf_n, orf_rf, rf_null, mA_pm, mL_pm, mP_pm, List.length_cons, List.length_nil, List.cons_append, List.nil_append, Nat.reduceAdd, Nat.reduceLeDiff, Nat.reduceLT, Nat.reduceEqDiff, Nat.zero_add, Nat.add_zero, Nat.le_refl, Nat.zero_le, true_and, and_true, true_or, or_true, false_or, or_false, reduceIte]
        apply h45
        simp only [B_X7_asksForJob_45, o_is, o_il, o_if, o_al, o_gf, o_iald, lset_3, nth_3, nth_0, nth_2, nth_1, opV_1, opV_3, mV_7_29, al_7, hs.a7, hs.p29, kd_37, ix_37, hs.l37, rm_37, wm_37, ix_7, mV_7_27, hs.p27, kd_35, ix_35, hs.l35, rm_35, wm_35, mV_7_2, hs.p2, kd_20, ix_20, hs.l20, rm_20, wm_20, cats_nil, cats_cons, rf_s, rf_n, isR_r, isR_n, isR_rf, cat_i, cat_l, cat_r, cat_n, cat_rf, unl_i, unl_l, unl_r, unl_n, unl_j, unl_rf, orf_r, orf_n, orf_rf, rf_null, mA_pm, mL_pm, mP_pm, List.length_cons, List.length_nil, List.cons_append, List.nil_append, Nat.reduceAdd, Nat.reduceLeDiff, Nat.reduceLT, Nat.reduceEqDiff, Nat.zero_add, Nat.add_zero, Nat.le_refl, Nat.zero_le, true_and, and_true, true_or, or_true, false_or, or_false, reduceIte]
        exact ⟨fun _ => k122 (fun z => q z.1) _, fun z => by first | exact absurd rfl z | exact absurd trivial z⟩
      have k40 : isBk M i → X 40 [.ref (ob 7 0), .int (nI k), .int (nI i), w3] [] (pm c M) 0 0 := by
        intro q
        obtain ⟨t1, t2⟩ := GR_bk hGR hin q
        have ht2 : rtN M i < 12 := by omega
        apply h40
        simp only [B_X7_asksForJob_40, o_ic, cats_nil, cats_cons, rf_s, rf_n, isR_r, isR_n, isR_rf, cat_i, cat_l, cat_r, cat_n, cat_rf, unl_i, unl_l, unl_r, unl_n, unl_j, unl_rf, orf_r, orf_n, orf_rf, rf_null, mA_pm, mL_pm, mP_pm, List.length_cons, List.length_nil, List.cons_append, List.nil_append, Nat.reduceAdd, Nat.reduceLeDiff, Nat.reduceLT, Nat.reduceEqDiff, Nat.zero_add, Nat.add_zero, Nat.le_refl, Nat.zero_le, true_and, and_true, true_or, or_true, false_or, or_false, reduceIte]
        apply h45
        simp only [B_X7_asksForJob_45, o_is, o_il, o_if, o_al, o_gf, o_iald, lset_3, nth_3, nth_0, nth_2, nth_1, opV_1, opV_3, mV_7_29, al_7, hs.a7, hs.p29, kd_37, ix_37, hs.l37, rm_37, wm_37, ix_7, mV_7_27, hs.p27, kd_35, ix_35, hs.l35, rm_35, wm_35, mV_7_2, hs.p2, kd_20, ix_20, hs.l20, rm_20, wm_20, cats_nil, cats_cons, rf_s, rf_n, isR_r, isR_n, isR_rf, cat_i, cat_l, cat_r, cat_n, cat_rf, unl_i, unl_l, unl_r, unl_n, unl_j, unl_rf, orf_r, orf_n, orf_rf, rf_null, mA_pm, mL_pm, mP_pm, List.length_cons, List.length_nil, List.cons_append, List.nil_append, Nat.reduceAdd, Nat.reduceLeDiff, Nat.reduceLT, Nat.reduceEqDiff, Nat.zero_add, Nat.add_zero, Nat.le_refl, Nat.zero_le, true_and, and_true, true_or, or_true, false_or, or_false, reduceIte, vin hi3, ncl hi3]
        refine ⟨fun z => absurd z (by decide), fun _ => ?_⟩
        refine sp_hasJob hs _ ?_
        simp only [o_is, o_il, o_if, o_al, o_gf, o_iald, lset_3, nth_3, nth_0, nth_2, nth_1, opV_1, opV_3, mV_7_29, al_7, hs.a7, hs.p29, kd_37, ix_37, hs.l37, rm_37, wm_37, ix_7, mV_7_27, hs.p27, kd_35, ix_35, hs.l35, rm_35, wm_35, mV_7_2, hs.p2, kd_20, ix_20, hs.l20, rm_20, wm_20, cats_nil, cats_cons, rf_s, rf_n, isR_r, isR_n, isR_rf, cat_i, cat_l, cat_r, cat_n, cat_rf, unl_i, unl_l, unl_r, unl_n, unl_j, unl_rf, orf_r, orf_n, orf_rf, rf_null, mA_pm, mL_pm, mP_pm, List.length_cons, List.length_nil, List.cons_append, List.nil_append, Nat.reduceAdd, Nat.reduceLeDiff, Nat.reduceLT, Nat.reduceEqDiff, Nat.zero_add, Nat.add_zero, Nat.le_refl, Nat.zero_le, true_and, and_true, true_or, or_true, false_or, or_false, reduceIte, vin hi3, ncl hi3, t2, vin ht2, ncl ht2]
        refine ⟨fun z => ?_, fun z => k122 (fun y => y.2.1 (by rw [t2]; exact bi_ne0 z)) _⟩
        refine sp_may hs hk _ _ (fun r hr => ?_)
        simp only [o_is, o_il, o_if, o_al, o_gf, o_iald, lset_3, nth_3, nth_0, nth_2, nth_1, opV_1, opV_3, mV_7_29, al_7, hs.a7, hs.p29, kd_37, ix_37, hs.l37, rm_37, wm_37, ix_7, mV_7_27, hs.p27, kd_35, ix_35, hs.l35, rm_35, wm_35, mV_7_2, hs.p2, kd_20, ix_20, hs.l20, rm_20, wm_20, cats_nil, cats_cons, rf_s, rf_n, isR_r, isR_n, isR_rf, cat_i, cat_l, cat_r, cat_n, cat_rf, unl_i, unl_l, unl_r, unl_n, unl_j, unl_rf, orf_r, orf_n, orf_rf, rf_null, mA_pm, mL_pm, mP_pm, List.length_cons, List.length_nil, List.cons_append, List.nil_append, Nat.reduceAdd, Nat.reduceLeDiff, Nat.reduceLT, Nat.reduceEqDiff, Nat.zero_add, Nat.add_zero, Nat.le_refl, Nat.zero_le, true_and, and_true, true_or, or_true, false_or, or_false, reduceIte]
        rcases hr with ⟨rfl, hr⟩ | ⟨rfl, hr⟩
        · refine ⟨fun z => absurd z (by decide), fun _ => ?_⟩
          apply h91
          simp only [B_X7_asksForJob_91, o_al, o_il, o_gf, o_iald, o_ic, o_vret, nth_0, nth_1, nth_2, opV_6, mV_7_29, al_7, hs.a7, hs.p29, kd_37, ix_37, hs.l37, rm_37, wm_37, ix_7, mV_7_27, hs.p27, kd_35, ix_35, hs.l35, rm_35, wm_35, mV_7_2, hs.p2, kd_20, ix_20, hs.l20, rm_20, wm_20, cats_nil, cats_cons, rf_s, rf_n, isR_r, isR_n, isR_rf, cat_i, cat_l, cat_r, cat_n, cat_rf, unl_i, unl_l, unl_r, unl_n, unl_j, unl_rf, orf_r, orf_n, orf_rf, rf_null, mA_pm, mL_pm, mP_pm, List.length_cons, List.length_nil, List.cons_append, List.nil_append, Nat.reduceAdd, Nat.reduceLeDiff, Nat.reduceLT, Nat.reduceEqDiff, Nat.zero_add, Nat.add_zero, Nat.le_refl, Nat.zero_le, true_and, and_true, true_or, or_true, false_or, or_false, reduceIte, vin hi3, ncl hi3, t2, vin ht2, ncl ht2]
          refine sp_takesJob hs hk hi3 _ _ _ 0 (Or.inl rfl) ?_
          rw [if_pos rfl]
          simp only [o_al, o_il, o_gf, o_iald, o_ic, o_vret, nth_0, nth_1, nth_2, opV_6, mV_7_29, al_7, hs.a7, hs.p29, kd_37, ix_37, hs.l37, rm_37, wm_37, ix_7, mV_7_27, hs.p27, kd_35, ix_35, hs.l35, rm_35, wm_35, mV_7_2, hs.p2, kd_20, ix_20, hs.l20, rm_20, wm_20, cats_nil, cats_cons, rf_s, rf_n, isR_r, isR_n, isR_rf, cat_i, cat_l, cat_r, cat_n, cat_rf, unl_i, unl_l, unl_r, unl_n, unl_j, unl_rf, orf_r, orf_n, orf_rf, rf_null, mA_pm, mL_pm, mP_pm, List.length_cons, List.length_nil, List.cons_append, List.nil_append, Nat.reduceAdd, Nat.reduceLeDiff, Nat.reduceLT, Nat.reduceEqDiff, Nat.zero_add, Nat.add_zero, Nat.le_refl, Nat.zero_le, true_and, and_true, true_or, or_true, false_or, or_false, reduceIte]
          refine H _ (Or.inl ⟨i, hin, ⟨q, fun y => bi_e0 z (by rw [← t2]; exact y), hr⟩, h, by rw [t2]⟩)
        · exact ⟨fun _ => k122 (fun y => hr y.2.2) _, fun z => by first | exact absurd rfl z | exact absurd trivial z⟩
      apply h2
      simp only [B_X7_asksForJob_2, o_il, o_al, o_gf, o_ic2, o_iald, o_ic, nth_2, nth_0, mV_7_26, al_7, hs.a7, rm_7, ix_7, mV_7_28, hs.p28, kd_36, ix_36, hs.l36, rm_36, wm_36, mV_7_29, hs.p29, kd_37, ix_37, hs.l37, rm_37, wm_37, cats_nil, cats_cons, rf_s, rf_n, isR_r, isR_n, isR_rf, cat_i, cat_l, cat_r, cat_n, cat_rf, unl_i, unl_l, unl_r, unl_n, unl_j, unl_rf, orf_r, orf_n, orf_rf, rf_null, mA_pm, mL_pm, mP_pm, List.length_cons, List.length_nil, List.cons_append, List.nil_append, Nat.reduceAdd, Nat.reduceLeDiff, Nat.reduceLT, Nat.reduceEqDiff, Nat.zero_add, Nat.add_zero, Nat.le_refl, Nat.zero_le, true_and, and_true, true_or, or_true, false_or, or_false, reduceIte, hR, vin hi3, ncl hi3]
      refine ⟨fun z => absurd z (by rw [nI_le_iff]; omega), fun _ => ⟨fun q => k40 (Or.inl q), fun q => ⟨fun q2 => ⟨fun q3 => k44 (fun y => ?_), fun q3 => k40 (Or.inr ⟨q2, q3⟩)⟩, fun q2 => k44 (fun y => ?_)⟩⟩⟩
      · rcases y with y | y
        · exact q y
        · exact y.2 q3
      · rcases y with y | y
        · exact q y
        · exact q2 y.1
  apply h0
  simp only [B_X7_asksForJob_0, o_ic, o_is, lset_2, cats_nil, cats_cons, rf_s, rf_n, isR_r, isR_n, isR_rf, cat_i, cat_l, cat_r, cat_n, cat_rf, unl_i, unl_l, unl_r, unl_n, unl_j, unl_rf, orf_r, orf_n, orf_rf, rf_null, mA_pm, mL_pm, mP_pm, List.length_cons, List.length_nil, List.cons_append, List.nil_append, Nat.reduceAdd, Nat.reduceLeDiff, Nat.reduceLT, Nat.reduceEqDiff, Nat.zero_add, Nat.add_zero, Nat.le_refl, Nat.zero_le, true_and, and_true, true_or, or_true, false_or, or_false, reduceIte]
  exact loop nR 0 _ (by omega) (fun j hj => by omega)
end ZM12
