/-! The model: copy -/
def cpW (M : MD) (a b lo hi : Nat) : MD := (M.1, fun k i => if k = 91 ∧ b + lo ≤ i ∧ i < b + hi then M.2 91 (a + (i - b)) else M.2 k i)
theorem cpW_0 (M : MD) (a b lo : Nat) : cpW M a b lo lo = M := by
  refine Prod.ext rfl (funext fun k => funext fun i => ?_)
  show (if _ then _ else _) = _
  rw [if_neg (by omega)]
theorem cpW_up (M : MD) (a b hi : Nat) : uJ (cpW M a b 0 hi) 91 (b + hi) (M.2 91 (a + hi)) = cpW M a b 0 (hi + 1) := by
  refine Prod.ext rfl (funext fun k => funext fun i => ?_)
  rw [uJ_2]
  show (if _ then _ else if _ then _ else _) = if _ then _ else _
  by_cases h : k = 91 ∧ i = b + hi
  · rw [if_pos h, if_pos (by omega), h.2, show a + (b + hi - b) = a + hi by omega]
  · rw [if_neg h]
    by_cases g : k = 91 ∧ b + 0 ≤ i ∧ i < b + hi
    · rw [if_pos g, if_pos (by omega)]
    · rw [if_neg g, if_neg (by omega)]
theorem cpW_dn (M : MD) (a b lo n : Nat) (hl : lo < n) : uJ (cpW M a b (lo + 1) n) 91 (b + lo) (M.2 91 (a + lo)) = cpW M a b lo n := by
  refine Prod.ext rfl (funext fun k => funext fun i => ?_)
  rw [uJ_2]
  show (if _ then _ else if _ then _ else _) = if _ then _ else _
  by_cases h : k = 91 ∧ i = b + lo
  · rw [if_pos h, if_pos (by omega), h.2, show a + (b + lo - b) = a + lo by omega]
  · rw [if_neg h]
    by_cases g : k = 91 ∧ b + (lo + 1) ≤ i ∧ i < b + n
    · rw [if_pos g, if_pos (by omega)]
    · rw [if_neg g, if_neg (by omega)]
theorem cpW_rd {M : MD} {a b lo hi j : Nat} (h : ¬ (b + lo ≤ j ∧ j < b + hi)) : (cpW M a b lo hi).2 91 j = M.2 91 j := if_neg (fun z => h z.2)
theorem cpW_sc {M M' : MD} (h : SC M M') (a b lo hi : Nat) : SC (cpW M a b lo hi) (cpW M' a b lo hi) := by
  refine ⟨h.1, fun k i q => ?_⟩
  show (if _ then _ else _) = if _ then _ else _
  rw [h.r91, h.2 k i q]
def copyBad (M : MD) (f t : Nat) (y w v : Int32) : Prop := v < 0 ∨ y < 0 ∨ w < 0 ∨ M.1 22 f - v < y ∨ M.1 22 t - v < w
def copyC (M : MD) (nT : Nat) (x z : Int32) (f t : Nat) : Prop := f < nT ∧ t < nT ∧ x = nI f ∧ z = nI t ∧ hmP M f ∧ hmP M t
def copyR (M : MD) (f t : Nat) (y w v r : Int32) (N : MD) : Prop := ((M.1 21 f = 4 ∨ M.1 21 t = 4) ∧ r = -2 ∧ N = M) ∨ (¬ (M.1 21 f = 4 ∨ M.1 21 t = 4) ∧ ((¬ M.1 21 f = M.1 21 t ∧ r = -3 ∧ N = M) ∨ (M.1 21 f = M.1 21 t ∧ ((copyBad M f t y w v ∧ r = -4 ∧ N = M) ∨ (¬ copyBad M f t y w v ∧ r = v ∧ ∃ a b n, (a ≤ 60 ∧ b ≤ 60 ∧ n ≤ 60) ∧ y = nI a ∧ w = nI b ∧ v = nI n ∧ N = cpW M (60 * f + a) (60 * t + b) 0 n)))))
theorem cp_nat {p : Nat} {y v : Int32} (hp : p ≤ 60) (hv : ¬ v < 0) (hy : ¬ y < 0) (h : ¬ nI p - v < y) : ∃ a n, y = nI a ∧ v = nI n ∧ a + n ≤ p := by
  have h1 : (0 : Int) ≤ v.toInt := by simpa using Int32.le_iff_toInt_le.mp (Int32.not_lt.mp hv)
  have h2 : (0 : Int) ≤ y.toInt := by simpa using Int32.le_iff_toInt_le.mp (Int32.not_lt.mp hy)
  have h3 := Int32.le_iff_toInt_le.mp (Int32.not_lt.mp h)
  have b1 := Int32.toInt_lt v
  have b2 := Int32.toInt_lt y
  rw [Int32.toInt_sub, nI_toI (by omega)] at h3
  have e : ((p : Int) - v.toInt).bmod (2 ^ 32) = (p : Int) - v.toInt := by
    rw [Int.bmod_eq_of_le] <;> omega
  rw [e] at h3
  refine ⟨y.toInt.toNat, v.toInt.toNat, ?_, ?_, by omega⟩
  · apply Int32.toInt_inj.mp
    rw [nI_toI (by omega)]
    omega
  · apply Int32.toInt_inj.mp
    rw [nI_toI (by omega)]
    omega
section ZM15
variable {l : Launch} {D : DD} {d : Nat} {c : HP} {M : MD} {Q : List Value → HP → Prop}
theorem sp_copy (hs : SKM c) {nT : Nat} (hT : M.1 7 1 = nI nT) (hT2 : nT ≤ 12) (hP : ∀ t, t < nT → ∃ p, p ≤ 60 ∧ M.1 22 t = nI p) (x y z w v : Int32) (H : ∀ r M', (∃ f t N, copyC M nT x z f t ∧ copyR M f t y w v r N ∧ SC N M') ∨ ((∀ f t, ¬ copyC M nT x z f t) ∧ r = -1 ∧ SC M M') → Q [.int r] (pm c M')) : K_X7_copy l D (d + 3) [.ref (ob 7 0), .int x, .int y, .int z, .int w, .int v] (pm c M) Q := by
  refine m_X7_copy (lsA := [.ref (ob 7 0), .int x, .int y, .int z, .int w, .int v, jk, jk, jk]) rfl (Nat.le_of_ble_eq_true rfl) ?_
  intro X h0 h37 h39 h59 h62 h80 h121 h124 h139 h140 h145 h167 h169 h206
  have hsc : SC M (uI M 7 0 0) := (SC.rf M).w 0 rfl
  have k37 : (∀ f t, ¬ copyC M nT x z f t) → X 37 [.ref (ob 7 0), .int x, .int y, .int z, .int w, .int v, jk, jk, jk] [] (pm c (uI M 7 0 0)) 0 0 := by
    intro q
    apply h37
    simp only [B_X7_copy_37, o_ic, o_iret, cats_nil, cats_cons, rf_s, rf_n, isR_r, isR_n, isR_rf, cat_i, cat_l, cat_r, cat_n, cat_rf, unl_i, unl_l, unl_r, unl_n, unl_j, unl_rf, orf_r, orf_n, orf_rf, rf_null, mA_pm, mL_pm, mP_pm, List.length_cons, List.length_nil, List.cons_append, List.nil_append, Nat.reduceAdd, Nat.reduceLeDiff, Nat.reduceLT, Nat.reduceEqDiff, Nat.zero_add, Nat.add_zero, Nat.le_refl, Nat.zero_le, true_and, and_true, true_or, or_true, false_or, or_false, reduceIte]
    exact H (-1) _ (Or.inr ⟨q, rfl, hsc⟩)
  apply h0
  simp only [B_X7_copy_0, o_al, o_ic, o_pI, o_il, o_if, nth_0, nth_1, nth_3, opV_1, al_7, ix_7, hs.a7, wm_7, wmJ_7, cats_nil, cats_cons, rf_s, rf_n, isR_r, isR_n, isR_rf, cat_i, cat_l, cat_r, cat_n, cat_rf, unl_i, unl_l, unl_r, unl_n, unl_j, unl_rf, orf_r, orf_n, orf_rf, rf_null, mA_pm, mL_pm, mP_pm, List.length_cons, List.length_nil, List.cons_append, List.nil_append, Nat.reduceAdd, Nat.reduceLeDiff, Nat.reduceLT, Nat.reduceEqDiff, Nat.zero_add, Nat.add_zero, Nat.le_refl, Nat.zero_le, true_and, and_true, true_or, or_true, false_or, or_false, reduceIte]
  refine sp_isTape hs _ ?_
  simp only [o_al, o_ic, o_pI, o_il, o_if, nth_0, nth_1, nth_3, opV_1, al_7, ix_7, hs.a7, wm_7, wmJ_7, cats_nil, cats_cons, rf_s, rf_n, isR_r, isR_n, isR_rf, cat_i, cat_l, cat_r, cat_n, cat_rf, unl_i, unl_l, unl_r, unl_n, unl_j, unl_rf, orf_r, orf_n, orf_rf, rf_null, mA_pm, mL_pm, mP_pm, List.length_cons, List.length_nil, List.cons_append, List.nil_append, Nat.reduceAdd, Nat.reduceLeDiff, Nat.reduceLT, Nat.reduceEqDiff, Nat.zero_add, Nat.add_zero, Nat.le_refl, Nat.zero_le, true_and, and_true, true_or, or_true, false_or, or_false, reduceIte, uI_1, hT, Nat.reduceEqDiff, and_false]
  refine ⟨fun q => k37 (fun f t h => bi_e0 q (by rw [h.2.2.1]; exact in_nI' h.1 (by omega))), fun q => ?_⟩
  obtain ⟨f, hf, rfl⟩ := in_nI (by omega) (bi_ne0 q)
  refine sp_isTape hs _ ?_
  simp only [o_al, o_ic, o_pI, o_il, o_if, nth_0, nth_1, nth_3, opV_1, al_7, ix_7, hs.a7, wm_7, wmJ_7, cats_nil, cats_cons, rf_s, rf_n, isR_r, isR_n, isR_rf, cat_i, cat_l, cat_r, cat_n, cat_rf, unl_i, unl_l, unl_r, unl_n, unl_j, unl_rf, orf_r, orf_n, orf_rf, rf_null, mA_pm, mL_pm, mP_pm, List.length_cons, List.length_nil, List.cons_append, List.nil_append, Nat.reduceAdd, Nat.reduceLeDiff, Nat.reduceLT, Nat.reduceEqDiff, Nat.zero_add, Nat.add_zero, Nat.le_refl, Nat.zero_le, true_and, and_true, true_or, or_true, false_or, or_false, reduceIte, uI_1, hT, Nat.reduceEqDiff, and_false]
  refine ⟨fun q => k37 (fun f t h => bi_e0 q (by rw [h.2.2.2.1]; exact in_nI' h.2.1 (by omega))), fun q => ?_⟩
  obtain ⟨t, ht, rfl⟩ := in_nI (by omega) (bi_ne0 q)
  have hf2 : f < 12 := by omega
  have ht2 : t < 12 := by omega
  have kk : ∀ f' t', copyC M nT (nI f) (nI t) f' t' → hmP M f ∧ hmP M t := by
    rintro f' t' ⟨h1, h2, h3, h4, h5, h6⟩
    rw [nI_eq_iff] at h3 h4
    rw [h3, h4]
    exact ⟨h5, h6⟩
  refine sp_isAtHome hs hf2 ?_
  simp only [o_al, o_ic, o_pI, o_il, o_if, nth_0, nth_1, nth_3, opV_1, al_7, ix_7, hs.a7, wm_7, wmJ_7, cats_nil, cats_cons, rf_s, rf_n, isR_r, isR_n, isR_rf, cat_i, cat_l, cat_r, cat_n, cat_rf, unl_i, unl_l, unl_r, unl_n, unl_j, unl_rf, orf_r, orf_n, orf_rf, rf_null, mA_pm, mL_pm, mP_pm, List.length_cons, List.length_nil, List.cons_append, List.nil_append, Nat.reduceAdd, Nat.reduceLeDiff, Nat.reduceLT, Nat.reduceEqDiff, Nat.zero_add, Nat.add_zero, Nat.le_refl, Nat.zero_le, true_and, and_true, true_or, or_true, false_or, or_false, reduceIte, uI_1, Nat.reduceEqDiff, false_and]
  refine ⟨fun q => k37 (fun f' t' h => bi_e0 q (kk f' t' h).1), fun q1 => ?_⟩
  refine sp_isAtHome hs ht2 ?_
  simp only [o_al, o_ic, o_pI, o_il, o_if, nth_0, nth_1, nth_3, opV_1, al_7, ix_7, hs.a7, wm_7, wmJ_7, cats_nil, cats_cons, rf_s, rf_n, isR_r, isR_n, isR_rf, cat_i, cat_l, cat_r, cat_n, cat_rf, unl_i, unl_l, unl_r, unl_n, unl_j, unl_rf, orf_r, orf_n, orf_rf, rf_null, mA_pm, mL_pm, mP_pm, List.length_cons, List.length_nil, List.cons_append, List.nil_append, Nat.reduceAdd, Nat.reduceLeDiff, Nat.reduceLT, Nat.reduceEqDiff, Nat.zero_add, Nat.add_zero, Nat.le_refl, Nat.zero_le, true_and, and_true, true_or, or_true, false_or, or_false, reduceIte, uI_1, Nat.reduceEqDiff, false_and]
  refine ⟨fun q => k37 (fun f' t' h => bi_e0 q (kk f' t' h).2), fun q2 => ?_⟩
  have hC : copyC M nT (nI f) (nI t) f t := ⟨hf, ht, rfl, rfl, bi_ne0 q1, bi_ne0 q2⟩
  have K : ∀ r N M', copyR M f t y w v r N → SC N M' → Q [.int r] (pm c M') := fun r N M' h1 h2 => H r M' (Or.inl ⟨f, t, N, hC, h1, h2⟩)
  have k59 : (M.1 21 f = 4 ∨ M.1 21 t = 4) → X 59 [.ref (ob 7 0), .int (nI f), .int y, .int (nI t), .int w, .int v, jk, jk, jk] [] (pm c (uI M 7 0 0)) 0 0 := by
    intro q
    apply h59
    simp only [B_X7_copy_59, o_ic, o_iret, cats_nil, cats_cons, rf_s, rf_n, isR_r, isR_n, isR_rf, cat_i, cat_l, cat_r, cat_n, cat_rf, unl_i, unl_l, unl_r, unl_n, unl_j, unl_rf, orf_r, orf_n, orf_rf, rf_null, mA_pm, mL_pm, mP_pm, List.length_cons, List.length_nil, List.cons_append, List.nil_append, Nat.reduceAdd, Nat.reduceLeDiff, Nat.reduceLT, Nat.reduceEqDiff, Nat.zero_add, Nat.add_zero, Nat.le_refl, Nat.zero_le, true_and, and_true, true_or, or_true, false_or, or_false, reduceIte]
    exact K (-2) M _ (Or.inl ⟨q, rfl, rfl⟩) hsc
  apply h39
  simp only [B_X7_copy_39, o_al, o_gf, o_il, o_iald, o_ic, o_ic2, nth_0, nth_1, nth_3, mV_7_3, al_7, hs.a7, hs.p3, kd_21, ix_21, hs.l21, rm_21, wm_21, ix_7, cats_nil, cats_cons, rf_s, rf_n, isR_r, isR_n, isR_rf, cat_i, cat_l, cat_r, cat_n, cat_rf, unl_i, unl_l, unl_r, unl_n, unl_j, unl_rf, orf_r, orf_n, orf_rf, rf_null, mA_pm, mL_pm, mP_pm, List.length_cons, List.length_nil, List.cons_append, List.nil_append, Nat.reduceAdd, Nat.reduceLeDiff, Nat.reduceLT, Nat.reduceEqDiff, Nat.zero_add, Nat.add_zero, Nat.le_refl, Nat.zero_le, true_and, and_true, true_or, or_true, false_or, or_false, reduceIte, vin hf2, ncl hf2, vin ht2, ncl ht2, uI_1, Nat.reduceEqDiff, false_and]
  refine ⟨fun q => k59 (Or.inl q), fun q3 => ⟨fun q => k59 (Or.inr q), fun q4 => ?_⟩⟩
  have q34 : ¬ (M.1 21 f = 4 ∨ M.1 21 t = 4) := fun h => h.elim q3 q4
  apply h62
  simp only [B_X7_copy_62, o_al, o_gf, o_il, o_iald, o_ic2, o_ic, o_iret, nth_0, nth_1, nth_3, mV_7_3, al_7, hs.a7, hs.p3, kd_21, ix_21, hs.l21, rm_21, wm_21, ix_7, cats_nil, cats_cons, rf_s, rf_n, isR_r, isR_n, isR_rf, cat_i, cat_l, cat_r, cat_n, cat_rf, unl_i, unl_l, unl_r, unl_n, unl_j, unl_rf, orf_r, orf_n, orf_rf, rf_null, mA_pm, mL_pm, mP_pm, List.length_cons, List.length_nil, List.cons_append, List.nil_append, Nat.reduceAdd, Nat.reduceLeDiff, Nat.reduceLT, Nat.reduceEqDiff, Nat.zero_add, Nat.add_zero, Nat.le_refl, Nat.zero_le, true_and, and_true, true_or, or_true, false_or, or_false, reduceIte, vin hf2, ncl hf2, vin ht2, ncl ht2, uI_1, Nat.reduceEqDiff, false_and]
  refine ⟨fun q5 => ?_, fun q5 => K (-3) M _ (Or.inr ⟨q34, Or.inl ⟨q5, rfl, rfl⟩⟩) hsc⟩
  have k121 : copyBad M f t y w v → X 121 [.ref (ob 7 0), .int (nI f), .int y, .int (nI t), .int w, .int v, jk, jk, jk] [] (pm c (uI M 7 0 0)) 0 0 := by
    intro q
    apply h121
    simp only [B_X7_copy_121, o_ic, o_iret, cats_nil, cats_cons, rf_s, rf_n, isR_r, isR_n, isR_rf, cat_i, cat_l, cat_r, cat_n, cat_rf, unl_i, unl_l, unl_r, unl_n, unl_j, unl_rf, orf_r, orf_n, orf_rf, rf_null, mA_pm, mL_pm, mP_pm, List.length_cons, List.length_nil, List.cons_append, List.nil_append, Nat.reduceAdd, Nat.reduceLeDiff, Nat.reduceLT, Nat.reduceEqDiff, Nat.zero_add, Nat.add_zero, Nat.le_refl, Nat.zero_le, true_and, and_true, true_or, or_true, false_or, or_false, reduceIte]
    exact K (-4) M _ (Or.inr ⟨q34, Or.inr ⟨q5, Or.inl ⟨q, rfl, rfl⟩⟩⟩) hsc
  have k124 : ¬ copyBad M f t y w v → X 124 [.ref (ob 7 0), .int (nI f), .int y, .int (nI t), .int w, .int v, jk, jk, jk] [] (pm c (uI M 7 0 0)) 0 0 := by
    intro q
    obtain ⟨pf, pf1, pf2⟩ := hP f hf
    obtain ⟨pt, pt1, pt2⟩ := hP t ht
    have g1 : ¬ v < 0 := fun h => q (Or.inl h)
    have g2 : ¬ y < 0 := fun h => q (Or.inr (Or.inl h))
    have g3 : ¬ w < 0 := fun h => q (Or.inr (Or.inr (Or.inl h)))
    have g4 : ¬ M.1 22 f - v < y := fun h => q (Or.inr (Or.inr (Or.inr (Or.inl h))))
    have g5 : ¬ M.1 22 t - v < w := fun h => q (Or.inr (Or.inr (Or.inr (Or.inr h))))
    rw [pf2] at g4
    rw [pt2] at g5
    obtain ⟨a, n, rfl, rfl, an⟩ := cp_nat pf1 g1 g2 g4
    obtain ⟨b, n', rfl, en, bn⟩ := cp_nat pt1 g1 g3 g5
    rw [nI_eq_iff] at en
    subst en
    have fin : ∀ M', SC (cpW M (60 * f + a) (60 * t + b) 0 n) M' → Q [.int (nI n)] (pm c M') := fun M' h => K (nI n) _ M' (Or.inr ⟨q34, Or.inr ⟨q5, Or.inr ⟨q, rfl, a, b, n, ⟨by omega, by omega, by omega⟩, rfl, rfl, rfl, rfl⟩⟩⟩) h
    have e60 : ∀ i j k, (60 : Int32) * nI i + nI j + nI k = nI (60 * i + j + k) := fun i j k => by rw [show (60 : Int32) = nI 60 from rfl, pk_mul, nI_add, nI_add]
    have k169 : ∀ k i bk w8 N M', k < n → SC N M' → (∀ M', SC (uJ N 91 (60 * t + b + k) (N.2 91 (60 * f + a + k))) M' → X 145 [.ref (ob 7 0), .int (nI f), .int (nI a), .int (nI t), .int (nI b), .int (nI n), .int bk, .int (nI (i + 1)), .int (nI k)] [] (pm c M') 0 0) → X 169 [.ref (ob 7 0), .int (nI f), .int (nI a), .int (nI t), .int (nI b), .int (nI n), .int bk, .int (nI i), w8] [.int (nI k)] (pm c M') 0 0 := by
      intro k i bk w8 N M' hk hS K2
      have i1 : 60 * t + b + k < 720 := by omega
      have i2 : 60 * f + a + k < 720 := by omega
      apply h169
      simp only [B_X7_copy_169, o_is, o_al, o_gf, o_ic, o_il, o_ii, o_lald, o_last, o_inc, lset_8, nth_0, nth_3, nth_4, nth_8, nth_1, nth_2, nth_7, lset_7, mV_7_7, al_7, hs.a7, hs.p7, kd_91, ix_91, hs.l91, rm_91, wm_91, ix_7, cats_nil, cats_cons, rf_s, rf_n, isR_r, isR_n, isR_rf, cat_i, cat_l, cat_r, cat_n, cat_rf, unl_i, unl_l, unl_r, unl_n, unl_j, unl_rf, orf_r, orf_n, orf_rf, rf_null, mA_pm, mL_pm, mP_pm, List.length_cons, List.length_nil, List.cons_append, List.nil_append, Nat.reduceAdd, Nat.reduceLeDiff, Nat.reduceLT, Nat.reduceEqDiff, Nat.zero_add, Nat.add_zero, Nat.le_refl, Nat.zero_le, true_and, and_true, true_or, or_true, false_or, or_false, reduceIte, e60, vin i1, ncl i1, vin i2, ncl i2, nI_1, hS.r91]
      exact K2 _ (hS.uj 91 _ _)
    have k206 : ∀ i bk w8 M', SC (cpW M (60 * f + a) (60 * t + b) 0 n) M' → X 206 [.ref (ob 7 0), .int (nI f), .int (nI a), .int (nI t), .int (nI b), .int (nI n), .int bk, .int (nI i), w8] [] (pm c M') 0 0 := by
      intro i bk w8 M' h
      apply h206
      simp only [B_X7_copy_206, o_il, o_iret, nth_5, cats_nil, cats_cons, rf_s, rf_n, isR_r, isR_n, isR_rf, cat_i, cat_l, cat_r, cat_n, cat_rf, unl_i, unl_l, unl_r, unl_n, unl_j, unl_rf, orf_r, orf_n, orf_rf, rf_null, mA_pm, mL_pm, mP_pm, List.length_cons, List.length_nil, List.cons_append, List.nil_append, Nat.reduceAdd, Nat.reduceLeDiff, Nat.reduceLT, Nat.reduceEqDiff, Nat.zero_add, Nat.add_zero, Nat.le_refl, Nat.zero_le, true_and, and_true, true_or, or_true, false_or, or_false, reduceIte]
      exact fin M' h
    have fwd : (f = t → b ≤ a) → ∀ m i w8 M', i + m = n → SC (cpW M (60 * f + a) (60 * t + b) 0 i) M' → X 145 [.ref (ob 7 0), .int (nI f), .int (nI a), .int (nI t), .int (nI b), .int (nI n), .int 0, .int (nI i), w8] [] (pm c M') 0 0 := by
      intro hft m
      induction m with
      | zero =>
        intro i w8 M' hi hS
        obtain rfl : i = n := by omega
        apply h145
        simp only [B_X7_copy_145, o_il, o_ic2, o_if, o_ic, o_ii, nth_7, nth_5, nth_6, cats_nil, cats_cons, rf_s, rf_n, isR_r, isR_n, isR_rf, cat_i, cat_l, cat_r, cat_n, cat_rf, unl_i, unl_l, unl_r, unl_n, unl_j, unl_rf, orf_r, orf_n, orf_rf, rf_null, mA_pm, mL_pm, mP_pm, List.length_cons, List.length_nil, List.cons_append, List.nil_append, Nat.reduceAdd, Nat.reduceLeDiff, Nat.reduceLT, Nat.reduceEqDiff, Nat.zero_add, Nat.add_zero, Nat.le_refl, Nat.zero_le, true_and, and_true, true_or, or_true, false_or, or_false, reduceIte]
        exact ⟨fun _ => k206 i 0 w8 M' hS, fun z => absurd (nI_le (by omega) (by omega)) z⟩
      | succ m ih =>
        intro i w8 M' hi hS
        apply h145
        simp only [B_X7_copy_145, o_il, o_ic2, o_if, o_ic, o_ii, nth_7, nth_5, nth_6, cats_nil, cats_cons, rf_s, rf_n, isR_r, isR_n, isR_rf, cat_i, cat_l, cat_r, cat_n, cat_rf, unl_i, unl_l, unl_r, unl_n, unl_j, unl_rf, orf_r, orf_n, orf_rf, rf_null, mA_pm, mL_pm, mP_pm, List.length_cons, List.length_nil, List.cons_append, List.nil_append, Nat.reduceAdd, Nat.reduceLeDiff, Nat.reduceLT, Nat.reduceEqDiff, Nat.zero_add, Nat.add_zero, Nat.le_refl, Nat.zero_le, true_and, and_true, true_or, or_true, false_or, or_false, reduceIte]
        refine ⟨fun z => absurd z (by rw [nI_le_iff]; omega), fun _ => ⟨fun _ => ?_, fun z => absurd trivial z⟩⟩
        apply h167
        simp only [B_X7_copy_167, o_il, nth_7, cats_nil, cats_cons, rf_s, rf_n, isR_r, isR_n, isR_rf, cat_i, cat_l, cat_r, cat_n, cat_rf, unl_i, unl_l, unl_r, unl_n, unl_j, unl_rf, orf_r, orf_n, orf_rf, rf_null, mA_pm, mL_pm, mP_pm, List.length_cons, List.length_nil, List.cons_append, List.nil_append, Nat.reduceAdd, Nat.reduceLeDiff, Nat.reduceLT, Nat.reduceEqDiff, Nat.zero_add, Nat.add_zero, Nat.le_refl, Nat.zero_le, true_and, and_true, true_or, or_true, false_or, or_false, reduceIte]
        refine k169 i i 0 w8 _ M' (by omega) hS (fun M2 g => ?_)
        rw [cpW_rd (by by_cases e : f = t <;> omega), cpW_up] at g
        exact ih (i + 1) _ M2 (by omega) g
    have bwd : f = t → a < b → ∀ m i w8 M', i + m = n → SC (cpW M (60 * f + a) (60 * t + b) m n) M' → X 145 [.ref (ob 7 0), .int (nI f), .int (nI a), .int (nI t), .int (nI b), .int (nI n), .int 1, .int (nI i), w8] [] (pm c M') 0 0 := by
      intro hft hab m
      induction m with
      | zero =>
        intro i w8 M' hi hS
        obtain rfl : i = n := by omega
        apply h145
        simp only [B_X7_copy_145, o_il, o_ic2, o_if, o_ic, o_ii, nth_7, nth_5, nth_6, cats_nil, cats_cons, rf_s, rf_n, isR_r, isR_n, isR_rf, cat_i, cat_l, cat_r, cat_n, cat_rf, unl_i, unl_l, unl_r, unl_n, unl_j, unl_rf, orf_r, orf_n, orf_rf, rf_null, mA_pm, mL_pm, mP_pm, List.length_cons, List.length_nil, List.cons_append, List.nil_append, Nat.reduceAdd, Nat.reduceLeDiff, Nat.reduceLT, Nat.reduceEqDiff, Nat.zero_add, Nat.add_zero, Nat.le_refl, Nat.zero_le, true_and, and_true, true_or, or_true, false_or, or_false, reduceIte]
        exact ⟨fun _ => k206 i 1 w8 M' hS, fun z => absurd (nI_le (by omega) (by omega)) z⟩
      | succ m ih =>
        intro i w8 M' hi hS
        have e1 : nI n - 1 - nI i = nI m := by rw [show (1 : Int32) = nI 1 from rfl, pk_sub (by omega), pk_sub (by omega), show n - 1 - i = m by omega]
        apply h145
        simp only [B_X7_copy_145, o_il, o_ic2, o_if, o_ic, o_ii, nth_7, nth_5, nth_6, cats_nil, cats_cons, rf_s, rf_n, isR_r, isR_n, isR_rf, cat_i, cat_l, cat_r, cat_n, cat_rf, unl_i, unl_l, unl_r, unl_n, unl_j, unl_rf, orf_r, orf_n, orf_rf, rf_null, mA_pm, mL_pm, mP_pm, List.length_cons, List.length_nil, List.cons_append, List.nil_append, Nat.reduceAdd, Nat.reduceLeDiff, Nat.reduceLT, Nat.reduceEqDiff, Nat.zero_add, Nat.add_zero, Nat.le_refl, Nat.zero_le, true_and, and_true, true_or, or_true, false_or, or_false, reduceIte, e1]
        refine ⟨fun z => absurd z (by rw [nI_le_iff]; omega), fun _ => ⟨fun z => absurd z (by decide), fun _ => ?_⟩⟩
        refine k169 m i 1 w8 _ M' (by omega) hS (fun M2 g => ?_)
        rw [cpW_rd (by omega), cpW_dn _ _ _ _ _ (by omega)] at g
        exact ih (i + 1) _ M2 (by omega) g
    have s0 : SC (cpW M (60 * f + a) (60 * t + b) 0 0) (uI M 7 0 0) := by rw [cpW_0]; exact hsc
    have sn : SC (cpW M (60 * f + a) (60 * t + b) n n) (uI M 7 0 0) := by rw [cpW_0]; exact hsc
    have k139 : (f = t → b ≤ a) → X 139 [.ref (ob 7 0), .int (nI f), .int (nI a), .int (nI t), .int (nI b), .int (nI n), jk, jk, jk] [] (pm c (uI M 7 0 0)) 0 0 := by
      intro h
      apply h139
      simp only [B_X7_copy_139, o_ic, cats_nil, cats_cons, rf_s, rf_n, isR_r, isR_n, isR_rf, cat_i, cat_l, cat_r, cat_n, cat_rf, unl_i, unl_l, unl_r, unl_n, unl_j, unl_rf, orf_r, orf_n, orf_rf, rf_null, mA_pm, mL_pm, mP_pm, List.length_cons, List.length_nil, List.cons_append, List.nil_append, Nat.reduceAdd, Nat.reduceLeDiff, Nat.reduceLT, Nat.reduceEqDiff, Nat.zero_add, Nat.add_zero, Nat.le_refl, Nat.zero_le, true_and, and_true, true_or, or_true, false_or, or_false, reduceIte]
      apply h140
      simp only [B_X7_copy_140, o_is, o_ic, lset_6, lset_7, cats_nil, cats_cons, rf_s, rf_n, isR_r, isR_n, isR_rf, cat_i, cat_l, cat_r, cat_n, cat_rf, unl_i, unl_l, unl_r, unl_n, unl_j, unl_rf, orf_r, orf_n, orf_rf, rf_null, mA_pm, mL_pm, mP_pm, List.length_cons, List.length_nil, List.cons_append, List.nil_append, Nat.reduceAdd, Nat.reduceLeDiff, Nat.reduceLT, Nat.reduceEqDiff, Nat.zero_add, Nat.add_zero, Nat.le_refl, Nat.zero_le, true_and, and_true, true_or, or_true, false_or, or_false, reduceIte]
      exact fwd h n 0 _ _ (by omega) s0
    apply h124
    simp only [B_X7_copy_124, o_il, o_ic2, o_ic, nth_1, nth_3, nth_4, nth_2, cats_nil, cats_cons, rf_s, rf_n, isR_r, isR_n, isR_rf, cat_i, cat_l, cat_r, cat_n, cat_rf, unl_i, unl_l, unl_r, unl_n, unl_j, unl_rf, orf_r, orf_n, orf_rf, rf_null, mA_pm, mL_pm, mP_pm, List.length_cons, List.length_nil, List.cons_append, List.nil_append, Nat.reduceAdd, Nat.reduceLeDiff, Nat.reduceLT, Nat.reduceEqDiff, Nat.zero_add, Nat.add_zero, Nat.le_refl, Nat.zero_le, true_and, and_true, true_or, or_true, false_or, or_false, reduceIte]
    refine ⟨fun e => ⟨fun e2 => k139 (fun _ => ?_), fun e2 => ?_⟩, fun e => k139 (fun z => absurd (by rw [z]) e)⟩
    · rw [nI_le_iff] at e2
      exact e2
    · rw [nI_eq_iff] at e
      rw [nI_le_iff] at e2
      apply h140
      simp only [B_X7_copy_140, o_is, o_ic, lset_6, lset_7, cats_nil, cats_cons, rf_s, rf_n, isR_r, isR_n, isR_rf, cat_i, cat_l, cat_r, cat_n, cat_rf, unl_i, unl_l, unl_r, unl_n, unl_j, unl_rf, orf_r, orf_n, orf_rf, rf_null, mA_pm, mL_pm, mP_pm, List.length_cons, List.length_nil, List.cons_append, List.nil_append, Nat.reduceAdd, Nat.reduceLeDiff, Nat.reduceLT, Nat.reduceEqDiff, Nat.zero_add, Nat.add_zero, Nat.le_refl, Nat.zero_le, true_and, and_true, true_or, or_true, false_or, or_false, reduceIte]
      exact bwd e (by omega) n 0 _ _ (by omega) sn
  apply h80
  simp only [B_X7_copy_80, o_il, o_if, o_al, o_gf, o_iald, o_ii, o_ic2, nth_5, nth_2, nth_4, nth_0, nth_1, nth_3, mV_7_4, al_7, hs.a7, hs.p4, kd_22, ix_22, hs.l22, rm_22, wm_22, ix_7, cats_nil, cats_cons, rf_s, rf_n, isR_r, isR_n, isR_rf, cat_i, cat_l, cat_r, cat_n, cat_rf, unl_i, unl_l, unl_r, unl_n, unl_j, unl_rf, orf_r, orf_n, orf_rf, rf_null, mA_pm, mL_pm, mP_pm, List.length_cons, List.length_nil, List.cons_append, List.nil_append, Nat.reduceAdd, Nat.reduceLeDiff, Nat.reduceLT, Nat.reduceEqDiff, Nat.zero_add, Nat.add_zero, Nat.le_refl, Nat.zero_le, true_and, and_true, true_or, or_true, false_or, or_false, reduceIte, vin hf2, ncl hf2, vin ht2, ncl ht2, uI_1, Nat.reduceEqDiff, false_and]
  refine ⟨fun g1 => k121 (Or.inl g1), fun g1 => ⟨fun g2 => k121 (Or.inr (Or.inl g2)), fun g2 => ⟨fun g3 => k121 (Or.inr (Or.inr (Or.inl g3))), fun g3 => ⟨fun g4 => k121 (Or.inr (Or.inr (Or.inr (Or.inl g4)))), fun g4 => ⟨fun g5 => k124 ?_, fun g5 => k121 (Or.inr (Or.inr (Or.inr (Or.inr (Int32.not_le.mp g5)))))⟩⟩⟩⟩⟩
  rintro (h | h | h | h | h)
  · exact g1 h
  · exact g2 h
  · exact g3 h
  · exact g4 h
  · exact absurd h (Int32.not_lt.mpr g5)
end ZM15
