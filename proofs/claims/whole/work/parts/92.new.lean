/-! New cells; the class: tape -/
theorem wN_cm (c : HP) (M : MD) {k : Nat} (j n : Nat) (hk : isM k = false) : wN (pm c M) k j n = pm (wN c k j n) M := by
  refine Prod.ext rfl (Prod.ext rfl (Prod.ext ?_ (Prod.ext ?_ rfl)))
  · funext a b e
    show (if a = k ∧ e = j then 0 else if isM a = true ∧ e = 0 then M.1 a b else c.2.2.1 a b e) = (if isM a = true ∧ e = 0 then M.1 a b else if a = k ∧ e = j then 0 else c.2.2.1 a b e)
    by_cases h : a = k ∧ e = j
    · rw [if_pos h, if_pos h, if_neg (fun z => by rw [h.1, hk] at z; cases z.1)]
    · rw [if_neg h, if_neg h]
  · funext a b e
    show (if a = k ∧ e = j then 0 else if isM a = true ∧ e = 0 then M.2 a b else c.2.2.2.1 a b e) = (if isM a = true ∧ e = 0 then M.2 a b else if a = k ∧ e = j then 0 else c.2.2.2.1 a b e)
    by_cases h : a = k ∧ e = j
    · rw [if_pos h, if_pos h, if_neg (fun z => by rw [h.1, hk] at z; cases z.1)]
    · rw [if_neg h, if_neg h]
theorem wnm_0 (c : HP) (M : MD) (j n : Nat) : wN (pm c M) 0 j n = pm (wN c 0 j n) M := wN_cm c M j n rfl
theorem wnm_1 (c : HP) (M : MD) (j n : Nat) : wN (pm c M) 1 j n = pm (wN c 1 j n) M := wN_cm c M j n rfl
theorem wnm_2 (c : HP) (M : MD) (j n : Nat) : wN (pm c M) 2 j n = pm (wN c 2 j n) M := wN_cm c M j n rfl
theorem wnm_3 (c : HP) (M : MD) (j n : Nat) : wN (pm c M) 3 j n = pm (wN c 3 j n) M := wN_cm c M j n rfl
theorem wnm_4 (c : HP) (M : MD) (j n : Nat) : wN (pm c M) 4 j n = pm (wN c 4 j n) M := wN_cm c M j n rfl
theorem wnm_5 (c : HP) (M : MD) (j n : Nat) : wN (pm c M) 5 j n = pm (wN c 5 j n) M := wN_cm c M j n rfl
theorem wnm_19 (c : HP) (M : MD) (j n : Nat) : wN (pm c M) 19 j n = pm (wN c 19 j n) M := wN_cm c M j n rfl
theorem wnm_89 (c : HP) (M : MD) (j n : Nat) : wN (pm c M) 89 j n = pm (wN c 89 j n) M := wN_cm c M j n rfl
def i5C (c : HP) (j : Nat) (x y z : Int32) (o : Option Nat) : HP := wP (wI (wI (wI (wI c 5 5 j 0) 5 0 j x) 5 1 j y) 5 2 j z) 5 3 j o
def tpC (c : HP) (j : Nat) (x y : Int32) (p : Nat) : HP := wI (wP (if y = 4 then i5C (wN c 5 j 0) j x y (nI p) none else i5C (wN (wN c 5 j 0) 89 j p) j x y (nI p) (some (ob 89 j))) 96 j 0 (some (ob 5 j))) 6 7 0 (nI (j + 1))
section ZNEW
variable {l : Launch} {D : DD} {d : Nat} {c : HP} {M N : MD} {Q : List Value → HP → Prop}
theorem sp_init5 {j : Nat} (ha : mA c 5 j = true) (x y z : Int32) (o : Option Nat) (H : Q [] (pm (i5C c j x y z o) N)) : K_X5_init l D (d + 1) [.ref (ob 5 j), .int x, .int y, .int z, va_rf o] (pm c N) Q := by
  refine m_X5_init (lsA := [.ref (ob 5 j), .int x, .int y, .int z, va_rf o]) (by cases o <;> rfl) (by cases o <;> exact Nat.le_of_ble_eq_true rfl) ?_
  intro X h0
  apply h0
  simp only [B_X5_init_0, o_al, o_obj, o_ic, o_pI, o_il, o_pP, o_vret, nth_0, nth_1, nth_2, nth_3, nth_4, al_5, ix_5, cw_5, wP_cm, cats_nil, cats_cons, rf_s, rf_n, isR_r, isR_n, isR_rf, cat_i, cat_l, cat_r, cat_n, cat_rf, unl_i, unl_l, unl_r, unl_n, unl_j, unl_rf, orf_r, orf_n, orf_rf, rf_null, mA_pm, mL_pm, mP_pm, List.length_cons, List.length_nil, List.cons_append, List.nil_append, Nat.reduceAdd, Nat.reduceLeDiff, Nat.reduceLT, Nat.reduceEqDiff, Nat.zero_add, Nat.add_zero, Nat.le_refl, Nat.zero_le, true_and, and_true, true_or, or_true, false_or, or_false, reduceIte, ha, mA_wI, isR_rf]
  exact H
theorem tapeBad_c {nT : Nat} (hT : CTp c M nT) (x y n : Int32) : tapeBad M nT x y n ↔ (¬ (0 ≤ x ∧ x ≤ 39) ∨ ¬ (0 ≤ y ∧ y ≤ 4) ∨ (∃ t, t < nT ∧ mI c 5 0 t = x) ∨ 60 < n ∨ n = 0 ∨ nT = 12) := by
  have e : (∃ t, t < nT ∧ M.1 20 t = x) ↔ (∃ t, t < nT ∧ mI c 5 0 t = x) := ⟨fun ⟨t, h1, h2⟩ => ⟨t, h1, by rw [(hT t h1).1]; exact h2⟩, fun ⟨t, h1, h2⟩ => ⟨t, h1, by rw [← (hT t h1).1]; exact h2⟩⟩
  unfold tapeBad
  rw [e]
set_option maxHeartbeats 1000000 in
theorem sp_tape6 (hc : SKF c) {nT nR nA : Nat} (hd : SKD c nT nR nA) (hT2 : nT ≤ 12) (hT : CTp c M nT) (h7 : mI c 6 7 0 = nI nT) (hf : mA c 5 nT = false ∧ mA c 89 nT = false) (x y n : Int32) (H : ∀ r c', (tapeBad M nT x y n ∧ r = -1 ∧ c' = c) ∨ (¬ tapeBad M nT x y n ∧ n < 0 ∧ r = -2 ∧ c' = c) ∨ (∃ p, ¬ tapeBad M nT x y n ∧ 0 < p ∧ p ≤ 60 ∧ n = nI p ∧ r = nI nT ∧ c' = tpC c nT x y p) → Q [.int r] (pm c' N)) : K_X6_tape l D (d + 2) [.ref (ob 6 0), .int x, .int y, .int n] (pm c N) Q := by
  refine m_X6_tape (lsA := [.ref (ob 6 0), .int x, .int y, .int n, jk]) rfl (Nat.le_of_ble_eq_true rfl) ?_
  intro X h0 h55 h57 h64 h86 h89
  have k55 : tapeBad M nT x y n → ∀ ls n1 n2, n1 ≤ 2 → n2 ≤ 69 → X 55 ls [] (pm c N) n1 n2 := by
    intro q ls n1 n2 _ _
    apply h55
    simp only [B_X6_tape_55, o_ic, o_iret, cats_nil, cats_cons, rf_s, rf_n, isR_r, isR_n, isR_rf, cat_i, cat_l, cat_r, cat_n, cat_rf, unl_i, unl_l, unl_r, unl_n, unl_j, unl_rf, orf_r, orf_n, orf_rf, rf_null, mA_pm, mL_pm, mP_pm, List.length_cons, List.length_nil, List.cons_append, List.nil_append, Nat.reduceAdd, Nat.reduceLeDiff, Nat.reduceLT, Nat.reduceEqDiff, Nat.zero_add, Nat.add_zero, Nat.le_refl, Nat.zero_le, true_and, and_true, true_or, or_true, false_or, or_false, reduceIte]
    exact H _ _ (Or.inl ⟨q, rfl, rfl⟩)
  apply h0
  simp only [B_X6_tape_0, o_al, o_gf, o_is, o_il, o_ic, o_if, o_ic2, o_alen, nth_0, lset_4, nth_1, nth_2, nth_3, nth_4, opS_2, opV_1, mV_6_7, al_6, cI_6, hc.a6, ix_6, mV_6_0, hc.p6_0, kd_96, ix_96, hc.l96, cats_nil, cats_cons, rf_s, rf_n, isR_r, isR_n, isR_rf, cat_i, cat_l, cat_r, cat_n, cat_rf, unl_i, unl_l, unl_r, unl_n, unl_j, unl_rf, orf_r, orf_n, orf_rf, rf_null, mA_pm, mL_pm, mP_pm, List.length_cons, List.length_nil, List.cons_append, List.nil_append, Nat.reduceAdd, Nat.reduceLeDiff, Nat.reduceLT, Nat.reduceEqDiff, Nat.zero_add, Nat.add_zero, Nat.le_refl, Nat.zero_le, true_and, and_true, true_or, or_true, false_or, or_false, reduceIte, hc.a6, h7]
  refine sp_within6 x 40 (by omega) _ (fun r hr => ?_)
  simp only [o_al, o_gf, o_is, o_il, o_ic, o_if, o_ic2, o_alen, nth_0, lset_4, nth_1, nth_2, nth_3, nth_4, opS_2, opV_1, mV_6_7, al_6, cI_6, hc.a6, ix_6, mV_6_0, hc.p6_0, kd_96, ix_96, hc.l96, cats_nil, cats_cons, rf_s, rf_n, isR_r, isR_n, isR_rf, cat_i, cat_l, cat_r, cat_n, cat_rf, unl_i, unl_l, unl_r, unl_n, unl_j, unl_rf, orf_r, orf_n, orf_rf, rf_null, mA_pm, mL_pm, mP_pm, List.length_cons, List.length_nil, List.cons_append, List.nil_append, Nat.reduceAdd, Nat.reduceLeDiff, Nat.reduceLT, Nat.reduceEqDiff, Nat.zero_add, Nat.add_zero, Nat.le_refl, Nat.zero_le, true_and, and_true, true_or, or_true, false_or, or_false, reduceIte]
  rcases hr with ⟨rfl, a, ha, rfl⟩ | ⟨rfl, hno⟩
  rotate_left
  · refine ⟨fun _ => k55 (Or.inl (fun z => ?_)) _ _ _ (by omega) (by omega), fun z => by first | exact absurd rfl z | exact absurd trivial z⟩
    obtain ⟨i, hi, e⟩ := in_nI (x := x) (n := 40) (by omega) ⟨z.1, by rw [show nI 40 - 1 = 39 by decide]; exact z.2⟩
    exact hno i hi e
  refine ⟨fun z => absurd z (by decide), fun _ => ⟨fun q => k55 (Or.inr (Or.inl (fun z => absurd q (Int32.not_lt.mpr z.1)))) _ _ _ (by omega) (by omega), fun q => ⟨fun q2 => k55 (Or.inr (Or.inl (fun z => absurd q2 (Int32.not_lt.mpr z.2)))) _ _ _ (by omega) (by omega), fun q2 => ⟨fun q3 => k55 (Or.inr (Or.inr (Or.inr (Or.inr (Or.inl q3))))) _ _ _ (by omega) (by omega), fun q3 => ⟨fun q4 => k55 (Or.inr (Or.inr (Or.inr (Or.inl q4)))) _ _ _ (by omega) (by omega), fun q4 => ?_⟩⟩⟩⟩⟩
  refine sp_isHome hc hd hT2 _ (fun r hr => ?_)
  simp only [o_al, o_gf, o_is, o_il, o_ic, o_if, o_ic2, o_alen, nth_0, lset_4, nth_1, nth_2, nth_3, nth_4, opS_2, opV_1, mV_6_7, al_6, cI_6, hc.a6, ix_6, mV_6_0, hc.p6_0, kd_96, ix_96, hc.l96, cats_nil, cats_cons, rf_s, rf_n, isR_r, isR_n, isR_rf, cat_i, cat_l, cat_r, cat_n, cat_rf, unl_i, unl_l, unl_r, unl_n, unl_j, unl_rf, orf_r, orf_n, orf_rf, rf_null, mA_pm, mL_pm, mP_pm, List.length_cons, List.length_nil, List.cons_append, List.nil_append, Nat.reduceAdd, Nat.reduceLeDiff, Nat.reduceLT, Nat.reduceEqDiff, Nat.zero_add, Nat.add_zero, Nat.le_refl, Nat.zero_le, true_and, and_true, true_or, or_true, false_or, or_false, reduceIte, hc.a6, hc.p6_0, hc.l96, ofN]
  rcases hr with ⟨rfl, t, t1, t2⟩ | ⟨rfl, hnh⟩
  · refine ⟨fun z => absurd z (by decide), fun _ => k55 ?_ _ _ _ (by omega) (by omega)⟩
    exact (tapeBad_c hT _ _ _).mpr (Or.inr (Or.inr (Or.inl ⟨t, t1, t2⟩)))
  refine ⟨fun _ => ?_, fun z => by first | exact absurd rfl z | exact absurd trivial z⟩
  refine sp_within6 (nI nT) 12 (by omega) _ (fun r hr => ?_)
  simp only [o_al, o_gf, o_is, o_il, o_ic, o_if, o_ic2, o_alen, nth_0, lset_4, nth_1, nth_2, nth_3, nth_4, opS_2, opV_1, mV_6_7, al_6, cI_6, hc.a6, ix_6, mV_6_0, hc.p6_0, kd_96, ix_96, hc.l96, cats_nil, cats_cons, rf_s, rf_n, isR_r, isR_n, isR_rf, cat_i, cat_l, cat_r, cat_n, cat_rf, unl_i, unl_l, unl_r, unl_n, unl_j, unl_rf, orf_r, orf_n, orf_rf, rf_null, mA_pm, mL_pm, mP_pm, List.length_cons, List.length_nil, List.cons_append, List.nil_append, Nat.reduceAdd, Nat.reduceLeDiff, Nat.reduceLT, Nat.reduceEqDiff, Nat.zero_add, Nat.add_zero, Nat.le_refl, Nat.zero_le, true_and, and_true, true_or, or_true, false_or, or_false, reduceIte]
  rcases hr with ⟨rfl, i, hi, ei⟩ | ⟨rfl, hno⟩
  rotate_left
  · refine ⟨fun _ => k55 (Or.inr (Or.inr (Or.inr (Or.inr (Or.inr ?_))))) _ _ _ (by omega) (by omega), fun z => by first | exact absurd rfl z | exact absurd trivial z⟩
    rcases Nat.lt_or_ge nT 12 with z | z
    · exact absurd rfl (hno nT z)
    · omega
  rw [nI_eq_iff] at ei
  subst ei
  have hgood : ¬ tapeBad M nT (nI a) y n := fun z => by
    rcases (tapeBad_c hT _ _ _).mp z with z | z | z | z | z | z
    · refine z ⟨nI_pos' (by omega), ?_⟩
      rw [show (39 : Int32) = nI 39 from rfl, nI_le_iff]
      omega
    · exact z ⟨Int32.not_lt.mp q, Int32.not_lt.mp q2⟩
    · obtain ⟨t, t1, t2⟩ := z
      exact hnh t t1 t2
    · exact q4 z
    · exact q3 z
    · omega
  refine ⟨fun z => absurd z (by decide), fun _ => ?_⟩
  apply h57
  simp only [B_X6_tape_57, o_il, o_if, o_ic, o_iret, nth_3, cats_nil, cats_cons, rf_s, rf_n, isR_r, isR_n, isR_rf, cat_i, cat_l, cat_r, cat_n, cat_rf, unl_i, unl_l, unl_r, unl_n, unl_j, unl_rf, orf_r, orf_n, orf_rf, rf_null, mA_pm, mL_pm, mP_pm, List.length_cons, List.length_nil, List.cons_append, List.nil_append, Nat.reduceAdd, Nat.reduceLeDiff, Nat.reduceLT, Nat.reduceEqDiff, Nat.zero_add, Nat.add_zero, Nat.le_refl, Nat.zero_le, true_and, and_true, true_or, or_true, false_or, or_false, reduceIte]
  refine ⟨fun q5 => ?_, fun q5 => H _ _ (Or.inr (Or.inl ⟨hgood, Int32.not_le.mp q5, rfl, rfl⟩))⟩
  obtain ⟨p, hp, rfl⟩ := in_nI (x := n) (n := 61) (by omega) ⟨q5, by rw [show nI 61 - 1 = 60 by decide]; exact Int32.not_lt.mp q4⟩
  have hp0 : 0 < p := by
    rcases Nat.eq_zero_or_pos p with z | z
    · exact absurd (by rw [z]; rfl) q3
    · exact z
  have H' := H _ _ (Or.inr (Or.inr ⟨p, hgood, hp0, by omega, rfl, rfl, rfl⟩))
  unfold tpC at H'
  have hin : vp_in (nI nT) 12 := by have := vin (n := nT) (N := 12) hi; rw [this]; trivial
  have hcl : (nI nT).toNatClampNeg = nT := ncl (N := 12) hi
  apply h64
  simp only [B_X6_tape_64, o_al, o_gf, o_il, o_new, o_dup, o_ic, o_ic2, o_null, nth_0, nth_4, nth_1, nth_2, nth_3, mV_6_0, al_6, hc.p6_0, kd_96, ix_96, hc.l96, hc.a6, ix_6, cats_nil, cats_cons, rf_s, rf_n, isR_r, isR_n, isR_rf, cat_i, cat_l, cat_r, cat_n, cat_rf, unl_i, unl_l, unl_r, unl_n, unl_j, unl_rf, orf_r, orf_n, orf_rf, rf_null, mA_pm, mL_pm, mP_pm, List.length_cons, List.length_nil, List.cons_append, List.nil_append, Nat.reduceAdd, Nat.reduceLeDiff, Nat.reduceLT, Nat.reduceEqDiff, Nat.zero_add, Nat.add_zero, Nat.le_refl, Nat.zero_le, true_and, and_true, true_or, or_true, false_or, or_false, reduceIte, hc.a6, hc.p6_0, wnm_5]
  refine ⟨nT, hf.1, ?_⟩
  refine ⟨fun q6 => ?_, fun q6 => ?_⟩
  · rw [if_pos q6] at H'
    apply h89
    simp only [B_X6_tape_89, o_aast, o_al, o_dup, o_gf, o_ic, o_ii, o_pI, o_il, o_iret, nth_0, nth_4, opI_4, mV_6_7, al_6, cI_6, hc.a6, ix_6, cw_6, cats_nil, cats_cons, rf_s, rf_n, isR_r, isR_n, isR_rf, cat_i, cat_l, cat_r, cat_n, cat_rf, unl_i, unl_l, unl_r, unl_n, unl_j, unl_rf, orf_r, orf_n, orf_rf, rf_null, mA_pm, mL_pm, mP_pm, List.length_cons, List.length_nil, List.cons_append, List.nil_append, Nat.reduceAdd, Nat.reduceLeDiff, Nat.reduceLT, Nat.reduceEqDiff, Nat.zero_add, Nat.add_zero, Nat.le_refl, Nat.zero_le, true_and, and_true, true_or, or_true, false_or, or_false, reduceIte, mA_wN]
    refine sp_init5 (j := nT) (c := wN c 5 nT 0) (by simp only [mI_wI, mJ_wI, mP_wI, mL_wI, mA_wI, mI_wJ, mJ_wJ, mP_wJ, mL_wJ, mA_wJ, uI_1, uI_2, uJ_1, uJ_2, Nat.reduceEqDiff, false_and, and_false, true_and, and_true, reduceIte, mI_wP, mJ_wP, mL_wP, mA_wP, mI_wN, mJ_wN, mP_wN, mL_wN, mA_wN]) (nI a) y (nI p) none ?_
    have e6 : mA (i5C (wN c 5 nT 0) nT (nI a) y (nI p) none) 6 0 = true := by unfold i5C; simp only [mI_wI, mJ_wI, mP_wI, mL_wI, mA_wI, mI_wJ, mJ_wJ, mP_wJ, mL_wJ, mA_wJ, uI_1, uI_2, uJ_1, uJ_2, Nat.reduceEqDiff, false_and, and_false, true_and, and_true, reduceIte, mI_wP, mJ_wP, mL_wP, mA_wP, mI_wN, mJ_wN, mP_wN, mL_wN, mA_wN]; exact hc.a6
    have el : mL (i5C (wN c 5 nT 0) nT (nI a) y (nI p) none) 96 0 = 12 := by unfold i5C; simp only [mI_wI, mJ_wI, mP_wI, mL_wI, mA_wI, mI_wJ, mJ_wJ, mP_wJ, mL_wJ, mA_wJ, uI_1, uI_2, uJ_1, uJ_2, Nat.reduceEqDiff, false_and, and_false, true_and, and_true, reduceIte, mI_wP, mJ_wP, mL_wP, mA_wP, mI_wN, mJ_wN, mP_wN, mL_wN, mA_wN]; exact hc.l96
    have e7 : mI (i5C (wN c 5 nT 0) nT (nI a) y (nI p) none) 6 7 0 = nI nT := by unfold i5C; simp only [mI_wI, mJ_wI, mP_wI, mL_wI, mA_wI, mI_wJ, mJ_wJ, mP_wJ, mL_wJ, mA_wJ, uI_1, uI_2, uJ_1, uJ_2, Nat.reduceEqDiff, false_and, and_false, true_and, and_true, reduceIte, mI_wP, mJ_wP, mL_wP, mA_wP, mI_wN, mJ_wN, mP_wN, mL_wN, mA_wN]; exact h7
    simp only [o_aast, o_al, o_dup, o_gf, o_ic, o_ii, o_pI, o_il, o_iret, nth_0, nth_4, opI_4, mV_6_7, al_6, cI_6, hc.a6, ix_6, cw_6, cats_nil, cats_cons, rf_s, rf_n, isR_r, isR_n, isR_rf, cat_i, cat_l, cat_r, cat_n, cat_rf, unl_i, unl_l, unl_r, unl_n, unl_j, unl_rf, orf_r, orf_n, orf_rf, rf_null, mA_pm, mL_pm, mP_pm, List.length_cons, List.length_nil, List.cons_append, List.nil_append, Nat.reduceAdd, Nat.reduceLeDiff, Nat.reduceLT, Nat.reduceEqDiff, Nat.zero_add, Nat.add_zero, Nat.le_refl, Nat.zero_le, true_and, and_true, true_or, or_true, false_or, or_false, reduceIte, kd_5, kd_96, ix_96, e6, el, e7, hin, hcl, mA_wP, mI_wP, wP_cm, nI_1]
    exact H'
  · rw [if_neg q6] at H'
    apply h86
    simp only [B_X6_tape_86, o_il, o_newa, nth_3, cats_nil, cats_cons, rf_s, rf_n, isR_r, isR_n, isR_rf, cat_i, cat_l, cat_r, cat_n, cat_rf, unl_i, unl_l, unl_r, unl_n, unl_j, unl_rf, orf_r, orf_n, orf_rf, rf_null, mA_pm, mL_pm, mP_pm, List.length_cons, List.length_nil, List.cons_append, List.nil_append, Nat.reduceAdd, Nat.reduceLeDiff, Nat.reduceLT, Nat.reduceEqDiff, Nat.zero_add, Nat.add_zero, Nat.le_refl, Nat.zero_le, true_and, and_true, true_or, or_true, false_or, or_false, reduceIte, ncl (n := p) (N := 61) hp, wnm_89]
    refine ⟨nI_ge0 (by omega), by omega, by omega, nT, by rw [mA_wN, if_neg (by omega)]; exact hf.2, ?_⟩
    apply h89
    simp only [B_X6_tape_89, o_aast, o_al, o_dup, o_gf, o_ic, o_ii, o_pI, o_il, o_iret, nth_0, nth_4, opI_4, mV_6_7, al_6, cI_6, hc.a6, ix_6, cw_6, cats_nil, cats_cons, rf_s, rf_n, isR_r, isR_n, isR_rf, cat_i, cat_l, cat_r, cat_n, cat_rf, unl_i, unl_l, unl_r, unl_n, unl_j, unl_rf, orf_r, orf_n, orf_rf, rf_null, mA_pm, mL_pm, mP_pm, List.length_cons, List.length_nil, List.cons_append, List.nil_append, Nat.reduceAdd, Nat.reduceLeDiff, Nat.reduceLT, Nat.reduceEqDiff, Nat.zero_add, Nat.add_zero, Nat.le_refl, Nat.zero_le, true_and, and_true, true_or, or_true, false_or, or_false, reduceIte, mA_wN]
    refine ⟨by omega, ?_⟩
    refine sp_init5 (j := nT) (c := wN (wN c 5 nT 0) 89 nT p) (by simp only [mI_wI, mJ_wI, mP_wI, mL_wI, mA_wI, mI_wJ, mJ_wJ, mP_wJ, mL_wJ, mA_wJ, uI_1, uI_2, uJ_1, uJ_2, Nat.reduceEqDiff, false_and, and_false, true_and, and_true, reduceIte, mI_wP, mJ_wP, mL_wP, mA_wP, mI_wN, mJ_wN, mP_wN, mL_wN, mA_wN]) (nI a) y (nI p) (some (ob 89 nT)) ?_
    have e6 : mA (i5C (wN (wN c 5 nT 0) 89 nT p) nT (nI a) y (nI p) (some (ob 89 nT))) 6 0 = true := by unfold i5C; simp only [mI_wI, mJ_wI, mP_wI, mL_wI, mA_wI, mI_wJ, mJ_wJ, mP_wJ, mL_wJ, mA_wJ, uI_1, uI_2, uJ_1, uJ_2, Nat.reduceEqDiff, false_and, and_false, true_and, and_true, reduceIte, mI_wP, mJ_wP, mL_wP, mA_wP, mI_wN, mJ_wN, mP_wN, mL_wN, mA_wN]; exact hc.a6
    have el : mL (i5C (wN (wN c 5 nT 0) 89 nT p) nT (nI a) y (nI p) (some (ob 89 nT))) 96 0 = 12 := by unfold i5C; simp only [mI_wI, mJ_wI, mP_wI, mL_wI, mA_wI, mI_wJ, mJ_wJ, mP_wJ, mL_wJ, mA_wJ, uI_1, uI_2, uJ_1, uJ_2, Nat.reduceEqDiff, false_and, and_false, true_and, and_true, reduceIte, mI_wP, mJ_wP, mL_wP, mA_wP, mI_wN, mJ_wN, mP_wN, mL_wN, mA_wN]; exact hc.l96
    have e7 : mI (i5C (wN (wN c 5 nT 0) 89 nT p) nT (nI a) y (nI p) (some (ob 89 nT))) 6 7 0 = nI nT := by unfold i5C; simp only [mI_wI, mJ_wI, mP_wI, mL_wI, mA_wI, mI_wJ, mJ_wJ, mP_wJ, mL_wJ, mA_wJ, uI_1, uI_2, uJ_1, uJ_2, Nat.reduceEqDiff, false_and, and_false, true_and, and_true, reduceIte, mI_wP, mJ_wP, mL_wP, mA_wP, mI_wN, mJ_wN, mP_wN, mL_wN, mA_wN]; exact h7
    simp only [o_aast, o_al, o_dup, o_gf, o_ic, o_ii, o_pI, o_il, o_iret, nth_0, nth_4, opI_4, mV_6_7, al_6, cI_6, hc.a6, ix_6, cw_6, cats_nil, cats_cons, rf_s, rf_n, isR_r, isR_n, isR_rf, cat_i, cat_l, cat_r, cat_n, cat_rf, unl_i, unl_l, unl_r, unl_n, unl_j, unl_rf, orf_r, orf_n, orf_rf, rf_null, mA_pm, mL_pm, mP_pm, List.length_cons, List.length_nil, List.cons_append, List.nil_append, Nat.reduceAdd, Nat.reduceLeDiff, Nat.reduceLT, Nat.reduceEqDiff, Nat.zero_add, Nat.add_zero, Nat.le_refl, Nat.zero_le, true_and, and_true, true_or, or_true, false_or, or_false, reduceIte, kd_5, kd_96, ix_96, e6, el, e7, hin, hcl, mA_wP, mI_wP, wP_cm, nI_1]
    exact H'
end ZNEW
