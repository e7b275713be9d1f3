/-! the law's calls (written by gen_k.py) -/
theorem INB.skl {L B : Nat} {s : Nat → Int32} {c : HP} {M : MD} (h : INB L s c M B) : SKF c ∧ SKM c ∧ LEV L s c := by
  obtain ⟨nw, hB, nT, nR, nA, hT2, hR2, hA2, hC, hG, hN, hL⟩ := h
  exact ⟨hC.1, hC.2.2.1, hL⟩
theorem at_in {j L : Nat} (hj : 6 * j + 6 ≤ L) (hL : L ≤ 3072) : vp_in (nI (6 * j) + 1) L ∧ vp_in (nI (6 * j) + 2) L ∧ vp_in (nI (6 * j) + 3) L ∧ vp_in (nI (6 * j) + 4) L ∧ vp_in (nI (6 * j) + 5) L := by
  have g : ∀ k : Nat, k < 6 → ∀ x : Int32, x = nI k → vp_in (nI (6 * j) + x) L := fun k hk x hx => by
    subst hx
    unfold vp_in
    rw [nI_add, nI_clamp (by omega)]
    rintro (z | z)
    · exact absurd z (nI_ge0 (by omega))
    · omega
  exact ⟨g 1 (by omega) _ (by decide), g 2 (by omega) _ (by decide), g 3 (by omega) _ (by decide), g 4 (by omega) _ (by decide), g 5 (by omega) _ (by decide)⟩
theorem lcmp_self (x : Int64) : lg_cmp x x = 0 := by
  unfold lg_cmp
  rw [if_neg Int64.lt_irrefl, if_pos rfl]
def KC (L : Nat) (xs : Nat → Int32) (j B n1 n2 : Nat) (K : KT) : Prop := ∀ (c : HP) (M : MD) (m1 m2 : Nat) (u v w : Value), INB L xs c M B → m1 ≤ n1 + 2 → m2 ≤ n2 + 69 → K [.ref (ob 127 0), .ref (ob 6 0), .ref (ob 7 0), .ref (ob 90 0), .int (nI (6 * j)), u, v, w] [] (pm c M) m1 m2
section ZCALLS
variable {l : Launch} {D : DD} {d base sa L B j n1 n2 : Nat} {xs : Nat → Int32} {c : HP} {M : MD} {X : Nat → KT}
theorem lc_136 (hb : ∀ ls st h n1 n2, B_L_law_136 l D (d + 20) base sa X ls st h n1 n2 → X 136 ls st h n1 n2) (hj : 6 * j + 6 ≤ L) (hL : L ≤ 3072) (hB : B + 400 < 1000000) (hI : INB L xs c M B) (hn1 : n1 + 2 ≤ 601024) (hn2 : n2 + 69 ≤ 7293034) (K : KC L xs j (B + 400) n1 n2 (X 860)) (u v w : Value) : X 136 [.ref (ob 127 0), .ref (ob 6 0), .ref (ob 7 0), .ref (ob 90 0), .int (nI (6 * j)), u, v, w] [] (pm c M) n1 n2 := by
  obtain ⟨hc, hs, hV⟩ := hI.skl
  obtain ⟨v1, v2, v3, v4, v5⟩ := id hV
  obtain ⟨p1, p2, p3, p4, p5⟩ := at_in hj hL
  have r1 : n1 + 2 ≤ 601024 := by omega
  have r2 : n2 + 69 ≤ 7293034 := by omega
  apply hb
  simp only [B_L_law_136, o_al, o_il, o_ic, o_ii, o_iald, o_ic2, o_bad, nth_1, nth_0, nth_4, nth_2, opV_3, al_6, ix_6, hc.a6, al_7, ix_7, hs.a7, cats_nil, cats_cons, rf_s, rf_n, isR_r, isR_n, isR_rf, cat_i, cat_l, cat_r, cat_n, cat_rf, unl_i, unl_l, unl_r, unl_n, unl_j, unl_rf, orf_r, orf_n, orf_rf, rf_null, mA_pm, mL_pm, mP_pm, List.length_cons, List.length_nil, List.cons_append, List.nil_append, Nat.reduceAdd, Nat.reduceLeDiff, Nat.reduceLT, Nat.reduceEqDiff, Nat.zero_add, Nat.add_zero, Nat.le_refl, Nat.zero_le, true_and, and_true, true_or, or_true, false_or, or_false, reduceIte, kd_127, ix_127, cI_127, v4, v5, r1, r2, p1, p2, p3]
  refine op_tape hI _ _ _ (fun r c1 hp km => ?_)
  obtain ⟨hs1, w1, w2, w3, w4, w5⟩ := hp
  simp only [o_al, o_il, o_ic, o_ii, o_iald, o_ic2, o_bad, nth_1, nth_0, nth_4, nth_2, opV_3, al_6, ix_6, hc.a6, al_7, ix_7, hs.a7, cats_nil, cats_cons, rf_s, rf_n, isR_r, isR_n, isR_rf, cat_i, cat_l, cat_r, cat_n, cat_rf, unl_i, unl_l, unl_r, unl_n, unl_j, unl_rf, orf_r, orf_n, orf_rf, rf_null, mA_pm, mL_pm, mP_pm, List.length_cons, List.length_nil, List.cons_append, List.nil_append, Nat.reduceAdd, Nat.reduceLeDiff, Nat.reduceLT, Nat.reduceEqDiff, Nat.zero_add, Nat.add_zero, Nat.le_refl, Nat.zero_le, true_and, and_true, true_or, or_true, false_or, or_false, reduceIte, kd_127, ix_127, cI_127, v4, v5, r1, r2, p1, p2, p3, hs1.a7, w4, w5]
  refine km _ (fun M1 hI1 => ?_)
  simp only [o_al, o_il, o_ic, o_ii, o_iald, o_ic2, o_bad, nth_1, nth_0, nth_4, nth_2, opV_3, al_6, ix_6, hc.a6, al_7, ix_7, hs.a7, cats_nil, cats_cons, rf_s, rf_n, isR_r, isR_n, isR_rf, cat_i, cat_l, cat_r, cat_n, cat_rf, unl_i, unl_l, unl_r, unl_n, unl_j, unl_rf, orf_r, orf_n, orf_rf, rf_null, mA_pm, mL_pm, mP_pm, List.length_cons, List.length_nil, List.cons_append, List.nil_append, Nat.reduceAdd, Nat.reduceLeDiff, Nat.reduceLT, Nat.reduceEqDiff, Nat.zero_add, Nat.add_zero, Nat.le_refl, Nat.zero_le, true_and, and_true, true_or, or_true, false_or, or_false, reduceIte, kd_127, ix_127, cI_127, v4, v5, r1, r2, p1, p2, p3]
  first
    | exact ⟨fun _ => K _ _ _ _ _ _ _ (hI1.up (by omega)) (by omega) (by omega), fun z => absurd rfl z⟩
    | exact ⟨fun _ => K _ _ _ _ _ _ _ (hI1.up (by omega)) (by omega) (by omega), fun z => absurd trivial z⟩
theorem lc_185 (hb : ∀ ls st h n1 n2, B_L_law_185 l D (d + 20) base sa X ls st h n1 n2 → X 185 ls st h n1 n2) (hj : 6 * j + 6 ≤ L) (hL : L ≤ 3072) (hB : B + 400 < 1000000) (hI : INB L xs c M B) (hn1 : n1 + 2 ≤ 601024) (hn2 : n2 + 69 ≤ 7293034) (K : KC L xs j (B + 400) n1 n2 (X 860)) (u v w : Value) : X 185 [.ref (ob 127 0), .ref (ob 6 0), .ref (ob 7 0), .ref (ob 90 0), .int (nI (6 * j)), u, v, w] [] (pm c M) n1 n2 := by
  obtain ⟨hc, hs, hV⟩ := hI.skl
  obtain ⟨v1, v2, v3, v4, v5⟩ := id hV
  obtain ⟨p1, p2, p3, p4, p5⟩ := at_in hj hL
  have r1 : n1 + 2 ≤ 601024 := by omega
  have r2 : n2 + 16 ≤ 7293034 := by omega
  apply hb
  simp only [B_L_law_185, o_al, o_il, o_ic, o_ii, o_iald, o_ic2, o_bad, nth_1, nth_0, nth_4, nth_2, opV_1, al_6, ix_6, hc.a6, al_7, ix_7, hs.a7, cats_nil, cats_cons, rf_s, rf_n, isR_r, isR_n, isR_rf, cat_i, cat_l, cat_r, cat_n, cat_rf, unl_i, unl_l, unl_r, unl_n, unl_j, unl_rf, orf_r, orf_n, orf_rf, rf_null, mA_pm, mL_pm, mP_pm, List.length_cons, List.length_nil, List.cons_append, List.nil_append, Nat.reduceAdd, Nat.reduceLeDiff, Nat.reduceLT, Nat.reduceEqDiff, Nat.zero_add, Nat.add_zero, Nat.le_refl, Nat.zero_le, true_and, and_true, true_or, or_true, false_or, or_false, reduceIte, kd_127, ix_127, cI_127, v4, v5, r1, r2, p1]
  refine op_reader hI _ (fun r c1 hp km => ?_)
  obtain ⟨hs1, w1, w2, w3, w4, w5⟩ := hp
  simp only [o_al, o_il, o_ic, o_ii, o_iald, o_ic2, o_bad, nth_1, nth_0, nth_4, nth_2, opV_1, al_6, ix_6, hc.a6, al_7, ix_7, hs.a7, cats_nil, cats_cons, rf_s, rf_n, isR_r, isR_n, isR_rf, cat_i, cat_l, cat_r, cat_n, cat_rf, unl_i, unl_l, unl_r, unl_n, unl_j, unl_rf, orf_r, orf_n, orf_rf, rf_null, mA_pm, mL_pm, mP_pm, List.length_cons, List.length_nil, List.cons_append, List.nil_append, Nat.reduceAdd, Nat.reduceLeDiff, Nat.reduceLT, Nat.reduceEqDiff, Nat.zero_add, Nat.add_zero, Nat.le_refl, Nat.zero_le, true_and, and_true, true_or, or_true, false_or, or_false, reduceIte, kd_127, ix_127, cI_127, v4, v5, r1, r2, p1, hs1.a7, w4, w5]
  refine km _ (fun M1 hI1 => ?_)
  simp only [o_al, o_il, o_ic, o_ii, o_iald, o_ic2, o_bad, nth_1, nth_0, nth_4, nth_2, opV_1, al_6, ix_6, hc.a6, al_7, ix_7, hs.a7, cats_nil, cats_cons, rf_s, rf_n, isR_r, isR_n, isR_rf, cat_i, cat_l, cat_r, cat_n, cat_rf, unl_i, unl_l, unl_r, unl_n, unl_j, unl_rf, orf_r, orf_n, orf_rf, rf_null, mA_pm, mL_pm, mP_pm, List.length_cons, List.length_nil, List.cons_append, List.nil_append, Nat.reduceAdd, Nat.reduceLeDiff, Nat.reduceLT, Nat.reduceEqDiff, Nat.zero_add, Nat.add_zero, Nat.le_refl, Nat.zero_le, true_and, and_true, true_or, or_true, false_or, or_false, reduceIte, kd_127, ix_127, cI_127, v4, v5, r1, r2, p1]
  first
    | exact ⟨fun _ => K _ _ _ _ _ _ _ (hI1.up (by omega)) (by omega) (by omega), fun z => absurd rfl z⟩
    | exact ⟨fun _ => K _ _ _ _ _ _ _ (hI1.up (by omega)) (by omega) (by omega), fun z => absurd trivial z⟩
theorem lc_210 (hb : ∀ ls st h n1 n2, B_L_law_210 l D (d + 20) base sa X ls st h n1 n2 → X 210 ls st h n1 n2) (hj : 6 * j + 6 ≤ L) (hL : L ≤ 3072) (hB : B + 400 < 1000000) (hI : INB L xs c M B) (hn1 : n1 + 2 ≤ 601024) (hn2 : n2 + 69 ≤ 7293034) (K : KC L xs j (B + 400) n1 n2 (X 860)) (u v w : Value) : X 210 [.ref (ob 127 0), .ref (ob 6 0), .ref (ob 7 0), .ref (ob 90 0), .int (nI (6 * j)), u, v, w] [] (pm c M) n1 n2 := by
  obtain ⟨hc, hs, hV⟩ := hI.skl
  obtain ⟨v1, v2, v3, v4, v5⟩ := id hV
  obtain ⟨p1, p2, p3, p4, p5⟩ := at_in hj hL
  have r1 : n1 ≤ 601024 := by omega
  have r2 : n2 ≤ 7293034 := by omega
  apply hb
  simp only [B_L_law_210, o_al, o_il, o_ic, o_ii, o_iald, o_ic2, o_bad, nth_1, nth_0, nth_4, nth_2, opV_2, al_6, ix_6, hc.a6, al_7, ix_7, hs.a7, cats_nil, cats_cons, rf_s, rf_n, isR_r, isR_n, isR_rf, cat_i, cat_l, cat_r, cat_n, cat_rf, unl_i, unl_l, unl_r, unl_n, unl_j, unl_rf, orf_r, orf_n, orf_rf, rf_null, mA_pm, mL_pm, mP_pm, List.length_cons, List.length_nil, List.cons_append, List.nil_append, Nat.reduceAdd, Nat.reduceLeDiff, Nat.reduceLT, Nat.reduceEqDiff, Nat.zero_add, Nat.add_zero, Nat.le_refl, Nat.zero_le, true_and, and_true, true_or, or_true, false_or, or_false, reduceIte, kd_127, ix_127, cI_127, v4, v5, r1, r2, p1, p2]
  refine op_settings hI _ _ (fun r c1 hp km => ?_)
  obtain ⟨hs1, w1, w2, w3, w4, w5⟩ := hp
  simp only [o_al, o_il, o_ic, o_ii, o_iald, o_ic2, o_bad, nth_1, nth_0, nth_4, nth_2, opV_2, al_6, ix_6, hc.a6, al_7, ix_7, hs.a7, cats_nil, cats_cons, rf_s, rf_n, isR_r, isR_n, isR_rf, cat_i, cat_l, cat_r, cat_n, cat_rf, unl_i, unl_l, unl_r, unl_n, unl_j, unl_rf, orf_r, orf_n, orf_rf, rf_null, mA_pm, mL_pm, mP_pm, List.length_cons, List.length_nil, List.cons_append, List.nil_append, Nat.reduceAdd, Nat.reduceLeDiff, Nat.reduceLT, Nat.reduceEqDiff, Nat.zero_add, Nat.add_zero, Nat.le_refl, Nat.zero_le, true_and, and_true, true_or, or_true, false_or, or_false, reduceIte, kd_127, ix_127, cI_127, v4, v5, r1, r2, p1, p2, hs1.a7, w4, w5]
  refine km _ (fun M1 hI1 => ?_)
  simp only [o_al, o_il, o_ic, o_ii, o_iald, o_ic2, o_bad, nth_1, nth_0, nth_4, nth_2, opV_2, al_6, ix_6, hc.a6, al_7, ix_7, hs.a7, cats_nil, cats_cons, rf_s, rf_n, isR_r, isR_n, isR_rf, cat_i, cat_l, cat_r, cat_n, cat_rf, unl_i, unl_l, unl_r, unl_n, unl_j, unl_rf, orf_r, orf_n, orf_rf, rf_null, mA_pm, mL_pm, mP_pm, List.length_cons, List.length_nil, List.cons_append, List.nil_append, Nat.reduceAdd, Nat.reduceLeDiff, Nat.reduceLT, Nat.reduceEqDiff, Nat.zero_add, Nat.add_zero, Nat.le_refl, Nat.zero_le, true_and, and_true, true_or, or_true, false_or, or_false, reduceIte, kd_127, ix_127, cI_127, v4, v5, r1, r2, p1, p2]
  first
    | exact ⟨fun _ => K _ _ _ _ _ _ _ (hI1.up (by omega)) (by omega) (by omega), fun z => absurd rfl z⟩
    | exact ⟨fun _ => K _ _ _ _ _ _ _ (hI1.up (by omega)) (by omega) (by omega), fun z => absurd trivial z⟩
theorem lc_247 (hb : ∀ ls st h n1 n2, B_L_law_247 l D (d + 20) base sa X ls st h n1 n2 → X 247 ls st h n1 n2) (hj : 6 * j + 6 ≤ L) (hL : L ≤ 3072) (hB : B + 400 < 1000000) (hI : INB L xs c M B) (hn1 : n1 + 2 ≤ 601024) (hn2 : n2 + 69 ≤ 7293034) (K : KC L xs j (B + 400) n1 n2 (X 860)) (u v w : Value) : X 247 [.ref (ob 127 0), .ref (ob 6 0), .ref (ob 7 0), .ref (ob 90 0), .int (nI (6 * j)), u, v, w] [] (pm c M) n1 n2 := by
  obtain ⟨hc, hs, hV⟩ := hI.skl
  obtain ⟨v1, v2, v3, v4, v5⟩ := id hV
  obtain ⟨p1, p2, p3, p4, p5⟩ := at_in hj hL
  have r1 : n1 + 1 ≤ 601024 := by omega
  have r2 : n2 + 10 ≤ 7293034 := by omega
  apply hb
  simp only [B_L_law_247, o_al, o_il, o_ic, o_ii, o_iald, o_ic2, o_bad, nth_1, nth_0, nth_4, nth_2, opV_4, al_6, ix_6, hc.a6, al_7, ix_7, hs.a7, cats_nil, cats_cons, rf_s, rf_n, isR_r, isR_n, isR_rf, cat_i, cat_l, cat_r, cat_n, cat_rf, unl_i, unl_l, unl_r, unl_n, unl_j, unl_rf, orf_r, orf_n, orf_rf, rf_null, mA_pm, mL_pm, mP_pm, List.length_cons, List.length_nil, List.cons_append, List.nil_append, Nat.reduceAdd, Nat.reduceLeDiff, Nat.reduceLT, Nat.reduceEqDiff, Nat.zero_add, Nat.add_zero, Nat.le_refl, Nat.zero_le, true_and, and_true, true_or, or_true, false_or, or_false, reduceIte, kd_127, ix_127, cI_127, v4, v5, r1, r2, p1, p2, p3, p4]
  refine op_ask hI _ _ _ _ (fun r c1 hp km => ?_)
  obtain ⟨hs1, w1, w2, w3, w4, w5⟩ := hp
  simp only [o_al, o_il, o_ic, o_ii, o_iald, o_ic2, o_bad, nth_1, nth_0, nth_4, nth_2, opV_4, al_6, ix_6, hc.a6, al_7, ix_7, hs.a7, cats_nil, cats_cons, rf_s, rf_n, isR_r, isR_n, isR_rf, cat_i, cat_l, cat_r, cat_n, cat_rf, unl_i, unl_l, unl_r, unl_n, unl_j, unl_rf, orf_r, orf_n, orf_rf, rf_null, mA_pm, mL_pm, mP_pm, List.length_cons, List.length_nil, List.cons_append, List.nil_append, Nat.reduceAdd, Nat.reduceLeDiff, Nat.reduceLT, Nat.reduceEqDiff, Nat.zero_add, Nat.add_zero, Nat.le_refl, Nat.zero_le, true_and, and_true, true_or, or_true, false_or, or_false, reduceIte, kd_127, ix_127, cI_127, v4, v5, r1, r2, p1, p2, p3, p4, hs1.a7, w4, w5]
  refine km _ (fun M1 hI1 => ?_)
  simp only [o_al, o_il, o_ic, o_ii, o_iald, o_ic2, o_bad, nth_1, nth_0, nth_4, nth_2, opV_4, al_6, ix_6, hc.a6, al_7, ix_7, hs.a7, cats_nil, cats_cons, rf_s, rf_n, isR_r, isR_n, isR_rf, cat_i, cat_l, cat_r, cat_n, cat_rf, unl_i, unl_l, unl_r, unl_n, unl_j, unl_rf, orf_r, orf_n, orf_rf, rf_null, mA_pm, mL_pm, mP_pm, List.length_cons, List.length_nil, List.cons_append, List.nil_append, Nat.reduceAdd, Nat.reduceLeDiff, Nat.reduceLT, Nat.reduceEqDiff, Nat.zero_add, Nat.add_zero, Nat.le_refl, Nat.zero_le, true_and, and_true, true_or, or_true, false_or, or_false, reduceIte, kd_127, ix_127, cI_127, v4, v5, r1, r2, p1, p2, p3, p4]
  first
    | exact ⟨fun _ => K _ _ _ _ _ _ _ (hI1.up (by omega)) (by omega) (by omega), fun z => absurd rfl z⟩
    | exact ⟨fun _ => K _ _ _ _ _ _ _ (hI1.up (by omega)) (by omega) (by omega), fun z => absurd trivial z⟩
theorem lc_308 (hb : ∀ ls st h n1 n2, B_L_law_308 l D (d + 20) base sa X ls st h n1 n2 → X 308 ls st h n1 n2) (hj : 6 * j + 6 ≤ L) (hL : L ≤ 3072) (hB : B + 400 < 1000000) (hI : INB L xs c M B) (hn1 : n1 + 2 ≤ 601024) (hn2 : n2 + 69 ≤ 7293034) (K : KC L xs j (B + 400) n1 n2 (X 860)) (u v w : Value) : X 308 [.ref (ob 127 0), .ref (ob 6 0), .ref (ob 7 0), .ref (ob 90 0), .int (nI (6 * j)), u, v, w] [] (pm c M) n1 n2 := by
  obtain ⟨hc, hs, hV⟩ := hI.skl
  obtain ⟨v1, v2, v3, v4, v5⟩ := id hV
  obtain ⟨p1, p2, p3, p4, p5⟩ := at_in hj hL
  have r1 : n1 ≤ 601024 := by omega
  have r2 : n2 ≤ 7293034 := by omega
  apply hb
  simp only [B_L_law_308, o_al, o_il, o_ic, o_ii, o_iald, o_ic2, o_bad, nth_1, nth_0, nth_4, nth_2, opV_1, al_6, ix_6, hc.a6, al_7, ix_7, hs.a7, cats_nil, cats_cons, rf_s, rf_n, isR_r, isR_n, isR_rf, cat_i, cat_l, cat_r, cat_n, cat_rf, unl_i, unl_l, unl_r, unl_n, unl_j, unl_rf, orf_r, orf_n, orf_rf, rf_null, mA_pm, mL_pm, mP_pm, List.length_cons, List.length_nil, List.cons_append, List.nil_append, Nat.reduceAdd, Nat.reduceLeDiff, Nat.reduceLT, Nat.reduceEqDiff, Nat.zero_add, Nat.add_zero, Nat.le_refl, Nat.zero_le, true_and, and_true, true_or, or_true, false_or, or_false, reduceIte, kd_127, ix_127, cI_127, v4, v5, r1, r2, p1]
  refine op_tick hI (by omega) _ (fun r c1 hp km => ?_)
  obtain ⟨hs1, w1, w2, w3, w4, w5⟩ := hp
  simp only [o_al, o_il, o_ic, o_ii, o_iald, o_ic2, o_bad, nth_1, nth_0, nth_4, nth_2, opV_1, al_6, ix_6, hc.a6, al_7, ix_7, hs.a7, cats_nil, cats_cons, rf_s, rf_n, isR_r, isR_n, isR_rf, cat_i, cat_l, cat_r, cat_n, cat_rf, unl_i, unl_l, unl_r, unl_n, unl_j, unl_rf, orf_r, orf_n, orf_rf, rf_null, mA_pm, mL_pm, mP_pm, List.length_cons, List.length_nil, List.cons_append, List.nil_append, Nat.reduceAdd, Nat.reduceLeDiff, Nat.reduceLT, Nat.reduceEqDiff, Nat.zero_add, Nat.add_zero, Nat.le_refl, Nat.zero_le, true_and, and_true, true_or, or_true, false_or, or_false, reduceIte, kd_127, ix_127, cI_127, v4, v5, r1, r2, p1, hs1.a7, w4, w5]
  refine km _ (fun M1 hI1 => ?_)
  simp only [o_al, o_il, o_ic, o_ii, o_iald, o_ic2, o_bad, nth_1, nth_0, nth_4, nth_2, opV_1, al_6, ix_6, hc.a6, al_7, ix_7, hs.a7, cats_nil, cats_cons, rf_s, rf_n, isR_r, isR_n, isR_rf, cat_i, cat_l, cat_r, cat_n, cat_rf, unl_i, unl_l, unl_r, unl_n, unl_j, unl_rf, orf_r, orf_n, orf_rf, rf_null, mA_pm, mL_pm, mP_pm, List.length_cons, List.length_nil, List.cons_append, List.nil_append, Nat.reduceAdd, Nat.reduceLeDiff, Nat.reduceLT, Nat.reduceEqDiff, Nat.zero_add, Nat.add_zero, Nat.le_refl, Nat.zero_le, true_and, and_true, true_or, or_true, false_or, or_false, reduceIte, kd_127, ix_127, cI_127, v4, v5, r1, r2, p1]
  first
    | exact ⟨fun _ => K _ _ _ _ _ _ _ hI1 (by omega) (by omega), fun z => absurd rfl z⟩
    | exact ⟨fun _ => K _ _ _ _ _ _ _ hI1 (by omega) (by omega), fun z => absurd trivial z⟩
theorem lc_333 (hb : ∀ ls st h n1 n2, B_L_law_333 l D (d + 20) base sa X ls st h n1 n2 → X 333 ls st h n1 n2) (hj : 6 * j + 6 ≤ L) (hL : L ≤ 3072) (hB : B + 400 < 1000000) (hI : INB L xs c M B) (hn1 : n1 + 2 ≤ 601024) (hn2 : n2 + 69 ≤ 7293034) (K : KC L xs j (B + 400) n1 n2 (X 860)) (u v w : Value) : X 333 [.ref (ob 127 0), .ref (ob 6 0), .ref (ob 7 0), .ref (ob 90 0), .int (nI (6 * j)), u, v, w] [] (pm c M) n1 n2 := by
  obtain ⟨hc, hs, hV⟩ := hI.skl
  obtain ⟨v1, v2, v3, v4, v5⟩ := id hV
  obtain ⟨p1, p2, p3, p4, p5⟩ := at_in hj hL
  have r1 : n1 ≤ 601024 := by omega
  have r2 : n2 ≤ 7293034 := by omega
  apply hb
  simp only [B_L_law_333, o_al, o_il, o_ic, o_ii, o_iald, o_ic2, o_bad, nth_1, nth_0, nth_4, nth_2, opV_2, al_6, ix_6, hc.a6, al_7, ix_7, hs.a7, cats_nil, cats_cons, rf_s, rf_n, isR_r, isR_n, isR_rf, cat_i, cat_l, cat_r, cat_n, cat_rf, unl_i, unl_l, unl_r, unl_n, unl_j, unl_rf, orf_r, orf_n, orf_rf, rf_null, mA_pm, mL_pm, mP_pm, List.length_cons, List.length_nil, List.cons_append, List.nil_append, Nat.reduceAdd, Nat.reduceLeDiff, Nat.reduceLT, Nat.reduceEqDiff, Nat.zero_add, Nat.add_zero, Nat.le_refl, Nat.zero_le, true_and, and_true, true_or, or_true, false_or, or_false, reduceIte, kd_127, ix_127, cI_127, v4, v5, r1, r2, p1, p2]
  refine op_arm hI _ _ (fun r km => ?_)
  simp only [o_al, o_il, o_ic, o_ii, o_iald, o_ic2, o_bad, nth_1, nth_0, nth_4, nth_2, opV_2, al_6, ix_6, hc.a6, al_7, ix_7, hs.a7, cats_nil, cats_cons, rf_s, rf_n, isR_r, isR_n, isR_rf, cat_i, cat_l, cat_r, cat_n, cat_rf, unl_i, unl_l, unl_r, unl_n, unl_j, unl_rf, orf_r, orf_n, orf_rf, rf_null, mA_pm, mL_pm, mP_pm, List.length_cons, List.length_nil, List.cons_append, List.nil_append, Nat.reduceAdd, Nat.reduceLeDiff, Nat.reduceLT, Nat.reduceEqDiff, Nat.zero_add, Nat.add_zero, Nat.le_refl, Nat.zero_le, true_and, and_true, true_or, or_true, false_or, or_false, reduceIte, kd_127, ix_127, cI_127, v4, v5, r1, r2, p1, p2]
  refine km _ (fun M1 hI1 => ?_)
  simp only [o_al, o_il, o_ic, o_ii, o_iald, o_ic2, o_bad, nth_1, nth_0, nth_4, nth_2, opV_2, al_6, ix_6, hc.a6, al_7, ix_7, hs.a7, cats_nil, cats_cons, rf_s, rf_n, isR_r, isR_n, isR_rf, cat_i, cat_l, cat_r, cat_n, cat_rf, unl_i, unl_l, unl_r, unl_n, unl_j, unl_rf, orf_r, orf_n, orf_rf, rf_null, mA_pm, mL_pm, mP_pm, List.length_cons, List.length_nil, List.cons_append, List.nil_append, Nat.reduceAdd, Nat.reduceLeDiff, Nat.reduceLT, Nat.reduceEqDiff, Nat.zero_add, Nat.add_zero, Nat.le_refl, Nat.zero_le, true_and, and_true, true_or, or_true, false_or, or_false, reduceIte, kd_127, ix_127, cI_127, v4, v5, r1, r2, p1, p2]
  first
    | exact ⟨fun _ => K _ _ _ _ _ _ _ (hI1.up (by omega)) (by omega) (by omega), fun z => absurd rfl z⟩
    | exact ⟨fun _ => K _ _ _ _ _ _ _ (hI1.up (by omega)) (by omega) (by omega), fun z => absurd trivial z⟩
theorem lc_370 (hb : ∀ ls st h n1 n2, B_L_law_370 l D (d + 20) base sa X ls st h n1 n2 → X 370 ls st h n1 n2) (hj : 6 * j + 6 ≤ L) (hL : L ≤ 3072) (hB : B + 400 < 1000000) (hI : INB L xs c M B) (hn1 : n1 + 2 ≤ 601024) (hn2 : n2 + 69 ≤ 7293034) (K : KC L xs j (B + 400) n1 n2 (X 860)) (u v w : Value) : X 370 [.ref (ob 127 0), .ref (ob 6 0), .ref (ob 7 0), .ref (ob 90 0), .int (nI (6 * j)), u, v, w] [] (pm c M) n1 n2 := by
  obtain ⟨hc, hs, hV⟩ := hI.skl
  obtain ⟨v1, v2, v3, v4, v5⟩ := id hV
  obtain ⟨p1, p2, p3, p4, p5⟩ := at_in hj hL
  have r1 : n1 ≤ 601024 := by omega
  have r2 : n2 ≤ 7293034 := by omega
  apply hb
  simp only [B_L_law_370, o_al, o_il, o_ic, o_ii, o_iald, o_ic2, o_bad, nth_1, nth_0, nth_4, nth_2, opV_2, al_6, ix_6, hc.a6, al_7, ix_7, hs.a7, cats_nil, cats_cons, rf_s, rf_n, isR_r, isR_n, isR_rf, cat_i, cat_l, cat_r, cat_n, cat_rf, unl_i, unl_l, unl_r, unl_n, unl_j, unl_rf, orf_r, orf_n, orf_rf, rf_null, mA_pm, mL_pm, mP_pm, List.length_cons, List.length_nil, List.cons_append, List.nil_append, Nat.reduceAdd, Nat.reduceLeDiff, Nat.reduceLT, Nat.reduceEqDiff, Nat.zero_add, Nat.add_zero, Nat.le_refl, Nat.zero_le, true_and, and_true, true_or, or_true, false_or, or_false, reduceIte, kd_127, ix_127, cI_127, v4, v5, r1, r2, p1, p2]
  refine op_rig hI _ _ (fun r km => ?_)
  simp only [o_al, o_il, o_ic, o_ii, o_iald, o_ic2, o_bad, nth_1, nth_0, nth_4, nth_2, opV_2, al_6, ix_6, hc.a6, al_7, ix_7, hs.a7, cats_nil, cats_cons, rf_s, rf_n, isR_r, isR_n, isR_rf, cat_i, cat_l, cat_r, cat_n, cat_rf, unl_i, unl_l, unl_r, unl_n, unl_j, unl_rf, orf_r, orf_n, orf_rf, rf_null, mA_pm, mL_pm, mP_pm, List.length_cons, List.length_nil, List.cons_append, List.nil_append, Nat.reduceAdd, Nat.reduceLeDiff, Nat.reduceLT, Nat.reduceEqDiff, Nat.zero_add, Nat.add_zero, Nat.le_refl, Nat.zero_le, true_and, and_true, true_or, or_true, false_or, or_false, reduceIte, kd_127, ix_127, cI_127, v4, v5, r1, r2, p1, p2]
  refine km _ (fun M1 hI1 => ?_)
  simp only [o_al, o_il, o_ic, o_ii, o_iald, o_ic2, o_bad, nth_1, nth_0, nth_4, nth_2, opV_2, al_6, ix_6, hc.a6, al_7, ix_7, hs.a7, cats_nil, cats_cons, rf_s, rf_n, isR_r, isR_n, isR_rf, cat_i, cat_l, cat_r, cat_n, cat_rf, unl_i, unl_l, unl_r, unl_n, unl_j, unl_rf, orf_r, orf_n, orf_rf, rf_null, mA_pm, mL_pm, mP_pm, List.length_cons, List.length_nil, List.cons_append, List.nil_append, Nat.reduceAdd, Nat.reduceLeDiff, Nat.reduceLT, Nat.reduceEqDiff, Nat.zero_add, Nat.add_zero, Nat.le_refl, Nat.zero_le, true_and, and_true, true_or, or_true, false_or, or_false, reduceIte, kd_127, ix_127, cI_127, v4, v5, r1, r2, p1, p2]
  first
    | exact ⟨fun _ => K _ _ _ _ _ _ _ (hI1.up (by omega)) (by omega) (by omega), fun z => absurd rfl z⟩
    | exact ⟨fun _ => K _ _ _ _ _ _ _ (hI1.up (by omega)) (by omega) (by omega), fun z => absurd trivial z⟩
theorem lc_407 (hb : ∀ ls st h n1 n2, B_L_law_407 l D (d + 20) base sa X ls st h n1 n2 → X 407 ls st h n1 n2) (hj : 6 * j + 6 ≤ L) (hL : L ≤ 3072) (hB : B + 400 < 1000000) (hI : INB L xs c M B) (hn1 : n1 + 2 ≤ 601024) (hn2 : n2 + 69 ≤ 7293034) (K : KC L xs j (B + 400) n1 n2 (X 860)) (u v w : Value) : X 407 [.ref (ob 127 0), .ref (ob 6 0), .ref (ob 7 0), .ref (ob 90 0), .int (nI (6 * j)), u, v, w] [] (pm c M) n1 n2 := by
  obtain ⟨hc, hs, hV⟩ := hI.skl
  obtain ⟨v1, v2, v3, v4, v5⟩ := id hV
  obtain ⟨p1, p2, p3, p4, p5⟩ := at_in hj hL
  have r1 : n1 ≤ 601024 := by omega
  have r2 : n2 ≤ 7293034 := by omega
  apply hb
  simp only [B_L_law_407, o_al, o_il, o_ic, o_ii, o_iald, o_ic2, o_bad, nth_1, nth_0, nth_4, nth_2, opV_2, al_6, ix_6, hc.a6, al_7, ix_7, hs.a7, cats_nil, cats_cons, rf_s, rf_n, isR_r, isR_n, isR_rf, cat_i, cat_l, cat_r, cat_n, cat_rf, unl_i, unl_l, unl_r, unl_n, unl_j, unl_rf, orf_r, orf_n, orf_rf, rf_null, mA_pm, mL_pm, mP_pm, List.length_cons, List.length_nil, List.cons_append, List.nil_append, Nat.reduceAdd, Nat.reduceLeDiff, Nat.reduceLT, Nat.reduceEqDiff, Nat.zero_add, Nat.add_zero, Nat.le_refl, Nat.zero_le, true_and, and_true, true_or, or_true, false_or, or_false, reduceIte, kd_127, ix_127, cI_127, v4, v5, r1, r2, p1, p2]
  refine op_tapeOf hI _ _ (fun r km => ?_)
  simp only [o_al, o_il, o_ic, o_ii, o_iald, o_ic2, o_bad, nth_1, nth_0, nth_4, nth_2, opV_2, al_6, ix_6, hc.a6, al_7, ix_7, hs.a7, cats_nil, cats_cons, rf_s, rf_n, isR_r, isR_n, isR_rf, cat_i, cat_l, cat_r, cat_n, cat_rf, unl_i, unl_l, unl_r, unl_n, unl_j, unl_rf, orf_r, orf_n, orf_rf, rf_null, mA_pm, mL_pm, mP_pm, List.length_cons, List.length_nil, List.cons_append, List.nil_append, Nat.reduceAdd, Nat.reduceLeDiff, Nat.reduceLT, Nat.reduceEqDiff, Nat.zero_add, Nat.add_zero, Nat.le_refl, Nat.zero_le, true_and, and_true, true_or, or_true, false_or, or_false, reduceIte, kd_127, ix_127, cI_127, v4, v5, r1, r2, p1, p2]
  refine km _ (fun M1 hI1 => ?_)
  simp only [o_al, o_il, o_ic, o_ii, o_iald, o_ic2, o_bad, nth_1, nth_0, nth_4, nth_2, opV_2, al_6, ix_6, hc.a6, al_7, ix_7, hs.a7, cats_nil, cats_cons, rf_s, rf_n, isR_r, isR_n, isR_rf, cat_i, cat_l, cat_r, cat_n, cat_rf, unl_i, unl_l, unl_r, unl_n, unl_j, unl_rf, orf_r, orf_n, orf_rf, rf_null, mA_pm, mL_pm, mP_pm, List.length_cons, List.length_nil, List.cons_append, List.nil_append, Nat.reduceAdd, Nat.reduceLeDiff, Nat.reduceLT, Nat.reduceEqDiff, Nat.zero_add, Nat.add_zero, Nat.le_refl, Nat.zero_le, true_and, and_true, true_or, or_true, false_or, or_false, reduceIte, kd_127, ix_127, cI_127, v4, v5, r1, r2, p1, p2]
  first
    | exact ⟨fun _ => K _ _ _ _ _ _ _ (hI1.up (by omega)) (by omega) (by omega), fun z => absurd rfl z⟩
    | exact ⟨fun _ => K _ _ _ _ _ _ _ (hI1.up (by omega)) (by omega) (by omega), fun z => absurd trivial z⟩
theorem lc_511 (hb : ∀ ls st h n1 n2, B_L_law_511 l D (d + 20) base sa X ls st h n1 n2 → X 511 ls st h n1 n2) (hj : 6 * j + 6 ≤ L) (hL : L ≤ 3072) (hB : B + 400 < 1000000) (hI : INB L xs c M B) (hn1 : n1 + 2 ≤ 601024) (hn2 : n2 + 69 ≤ 7293034) (K : KC L xs j (B + 400) n1 n2 (X 860)) (u v w : Value) : X 511 [.ref (ob 127 0), .ref (ob 6 0), .ref (ob 7 0), .ref (ob 90 0), .int (nI (6 * j)), u, v, w] [] (pm c M) n1 n2 := by
  obtain ⟨hc, hs, hV⟩ := hI.skl
  obtain ⟨v1, v2, v3, v4, v5⟩ := id hV
  obtain ⟨p1, p2, p3, p4, p5⟩ := at_in hj hL
  have r1 : n1 ≤ 601024 := by omega
  have r2 : n2 ≤ 7293034 := by omega
  apply hb
  simp only [B_L_law_511, o_al, o_il, o_ic, o_ii, o_iald, o_lcmp, o_if, o_bad, nth_1, nth_0, nth_4, nth_2, opV_2, al_6, ix_6, hc.a6, al_7, ix_7, hs.a7, cats_nil, cats_cons, rf_s, rf_n, isR_r, isR_n, isR_rf, cat_i, cat_l, cat_r, cat_n, cat_rf, unl_i, unl_l, unl_r, unl_n, unl_j, unl_rf, orf_r, orf_n, orf_rf, rf_null, mA_pm, mL_pm, mP_pm, List.length_cons, List.length_nil, List.cons_append, List.nil_append, Nat.reduceAdd, Nat.reduceLeDiff, Nat.reduceLT, Nat.reduceEqDiff, Nat.zero_add, Nat.add_zero, Nat.le_refl, Nat.zero_le, true_and, and_true, true_or, or_true, false_or, or_false, reduceIte, kd_127, ix_127, cI_127, v4, v5, r1, r2, p1, p2]
  refine op_askOf hI _ _ (fun r km => ?_)
  simp only [o_al, o_il, o_ic, o_ii, o_iald, o_lcmp, o_if, o_bad, nth_1, nth_0, nth_4, nth_2, opV_2, al_6, ix_6, hc.a6, al_7, ix_7, hs.a7, cats_nil, cats_cons, rf_s, rf_n, isR_r, isR_n, isR_rf, cat_i, cat_l, cat_r, cat_n, cat_rf, unl_i, unl_l, unl_r, unl_n, unl_j, unl_rf, orf_r, orf_n, orf_rf, rf_null, mA_pm, mL_pm, mP_pm, List.length_cons, List.length_nil, List.cons_append, List.nil_append, Nat.reduceAdd, Nat.reduceLeDiff, Nat.reduceLT, Nat.reduceEqDiff, Nat.zero_add, Nat.add_zero, Nat.le_refl, Nat.zero_le, true_and, and_true, true_or, or_true, false_or, or_false, reduceIte, kd_127, ix_127, cI_127, v4, v5, r1, r2, p1, p2]
  refine km _ (fun M1 hI1 => ?_)
  simp only [o_al, o_il, o_ic, o_ii, o_iald, o_lcmp, o_if, o_bad, nth_1, nth_0, nth_4, nth_2, opV_2, al_6, ix_6, hc.a6, al_7, ix_7, hs.a7, cats_nil, cats_cons, rf_s, rf_n, isR_r, isR_n, isR_rf, cat_i, cat_l, cat_r, cat_n, cat_rf, unl_i, unl_l, unl_r, unl_n, unl_j, unl_rf, orf_r, orf_n, orf_rf, rf_null, mA_pm, mL_pm, mP_pm, List.length_cons, List.length_nil, List.cons_append, List.nil_append, Nat.reduceAdd, Nat.reduceLeDiff, Nat.reduceLT, Nat.reduceEqDiff, Nat.zero_add, Nat.add_zero, Nat.le_refl, Nat.zero_le, true_and, and_true, true_or, or_true, false_or, or_false, reduceIte, kd_127, ix_127, cI_127, v4, v5, r1, r2, p1, p2]
  simp only [lcmp_self]
  first
    | exact ⟨fun _ => K _ _ _ _ _ _ _ (hI1.up (by omega)) (by omega) (by omega), fun z => absurd rfl z⟩
    | exact ⟨fun _ => K _ _ _ _ _ _ _ (hI1.up (by omega)) (by omega) (by omega), fun z => absurd trivial z⟩
theorem lc_549 (hb : ∀ ls st h n1 n2, B_L_law_549 l D (d + 20) base sa X ls st h n1 n2 → X 549 ls st h n1 n2) (hj : 6 * j + 6 ≤ L) (hL : L ≤ 3072) (hB : B + 400 < 1000000) (hI : INB L xs c M B) (hn1 : n1 + 2 ≤ 601024) (hn2 : n2 + 69 ≤ 7293034) (K : KC L xs j (B + 400) n1 n2 (X 860)) (u v w : Value) : X 549 [.ref (ob 127 0), .ref (ob 6 0), .ref (ob 7 0), .ref (ob 90 0), .int (nI (6 * j)), u, v, w] [] (pm c M) n1 n2 := by
  obtain ⟨hc, hs, hV⟩ := hI.skl
  obtain ⟨v1, v2, v3, v4, v5⟩ := id hV
  obtain ⟨p1, p2, p3, p4, p5⟩ := at_in hj hL
  have r1 : n1 ≤ 601024 := by omega
  have r2 : n2 ≤ 7293034 := by omega
  apply hb
  simp only [B_L_law_549, o_al, o_il, o_ic, o_ii, o_iald, o_ic2, o_bad, nth_1, nth_0, nth_4, nth_2, opV_2, al_6, ix_6, hc.a6, al_7, ix_7, hs.a7, cats_nil, cats_cons, rf_s, rf_n, isR_r, isR_n, isR_rf, cat_i, cat_l, cat_r, cat_n, cat_rf, unl_i, unl_l, unl_r, unl_n, unl_j, unl_rf, orf_r, orf_n, orf_rf, rf_null, mA_pm, mL_pm, mP_pm, List.length_cons, List.length_nil, List.cons_append, List.nil_append, Nat.reduceAdd, Nat.reduceLeDiff, Nat.reduceLT, Nat.reduceEqDiff, Nat.zero_add, Nat.add_zero, Nat.le_refl, Nat.zero_le, true_and, and_true, true_or, or_true, false_or, or_false, reduceIte, kd_127, ix_127, cI_127, v4, v5, r1, r2, p1, p2]
  refine op_order hI _ _ (fun r c1 hp km => ?_)
  obtain ⟨hs1, w1, w2, w3, w4, w5⟩ := hp
  simp only [o_al, o_il, o_ic, o_ii, o_iald, o_ic2, o_bad, nth_1, nth_0, nth_4, nth_2, opV_2, al_6, ix_6, hc.a6, al_7, ix_7, hs.a7, cats_nil, cats_cons, rf_s, rf_n, isR_r, isR_n, isR_rf, cat_i, cat_l, cat_r, cat_n, cat_rf, unl_i, unl_l, unl_r, unl_n, unl_j, unl_rf, orf_r, orf_n, orf_rf, rf_null, mA_pm, mL_pm, mP_pm, List.length_cons, List.length_nil, List.cons_append, List.nil_append, Nat.reduceAdd, Nat.reduceLeDiff, Nat.reduceLT, Nat.reduceEqDiff, Nat.zero_add, Nat.add_zero, Nat.le_refl, Nat.zero_le, true_and, and_true, true_or, or_true, false_or, or_false, reduceIte, kd_127, ix_127, cI_127, v4, v5, r1, r2, p1, p2, hs1.a7, w4, w5]
  refine km _ (fun M1 hI1 => ?_)
  simp only [o_al, o_il, o_ic, o_ii, o_iald, o_ic2, o_bad, nth_1, nth_0, nth_4, nth_2, opV_2, al_6, ix_6, hc.a6, al_7, ix_7, hs.a7, cats_nil, cats_cons, rf_s, rf_n, isR_r, isR_n, isR_rf, cat_i, cat_l, cat_r, cat_n, cat_rf, unl_i, unl_l, unl_r, unl_n, unl_j, unl_rf, orf_r, orf_n, orf_rf, rf_null, mA_pm, mL_pm, mP_pm, List.length_cons, List.length_nil, List.cons_append, List.nil_append, Nat.reduceAdd, Nat.reduceLeDiff, Nat.reduceLT, Nat.reduceEqDiff, Nat.zero_add, Nat.add_zero, Nat.le_refl, Nat.zero_le, true_and, and_true, true_or, or_true, false_or, or_false, reduceIte, kd_127, ix_127, cI_127, v4, v5, r1, r2, p1, p2]
  first
    | exact ⟨fun _ => K _ _ _ _ _ _ _ (hI1.up (by omega)) (by omega) (by omega), fun z => absurd rfl z⟩
    | exact ⟨fun _ => K _ _ _ _ _ _ _ (hI1.up (by omega)) (by omega) (by omega), fun z => absurd trivial z⟩
theorem lc_586 (hb : ∀ ls st h n1 n2, B_L_law_586 l D (d + 20) base sa X ls st h n1 n2 → X 586 ls st h n1 n2) (hj : 6 * j + 6 ≤ L) (hL : L ≤ 3072) (hB : B + 400 < 1000000) (hI : INB L xs c M B) (hn1 : n1 + 2 ≤ 601024) (hn2 : n2 + 69 ≤ 7293034) (K : KC L xs j (B + 400) n1 n2 (X 860)) (u v w : Value) : X 586 [.ref (ob 127 0), .ref (ob 6 0), .ref (ob 7 0), .ref (ob 90 0), .int (nI (6 * j)), u, v, w] [] (pm c M) n1 n2 := by
  obtain ⟨hc, hs, hV⟩ := hI.skl
  obtain ⟨v1, v2, v3, v4, v5⟩ := id hV
  obtain ⟨p1, p2, p3, p4, p5⟩ := at_in hj hL
  have r1 : n1 ≤ 601024 := by omega
  have r2 : n2 ≤ 7293034 := by omega
  apply hb
  simp only [B_L_law_586, o_al, o_il, o_ic, o_ii, o_iald, o_ic2, o_bad, nth_1, nth_0, nth_4, nth_2, opV_2, al_6, ix_6, hc.a6, al_7, ix_7, hs.a7, cats_nil, cats_cons, rf_s, rf_n, isR_r, isR_n, isR_rf, cat_i, cat_l, cat_r, cat_n, cat_rf, unl_i, unl_l, unl_r, unl_n, unl_j, unl_rf, orf_r, orf_n, orf_rf, rf_null, mA_pm, mL_pm, mP_pm, List.length_cons, List.length_nil, List.cons_append, List.nil_append, Nat.reduceAdd, Nat.reduceLeDiff, Nat.reduceLT, Nat.reduceEqDiff, Nat.zero_add, Nat.add_zero, Nat.le_refl, Nat.zero_le, true_and, and_true, true_or, or_true, false_or, or_false, reduceIte, kd_127, ix_127, cI_127, v4, v5, r1, r2, p1, p2]
  refine op_told hI _ _ (fun r c1 hp km => ?_)
  obtain ⟨hs1, w1, w2, w3, w4, w5⟩ := hp
  simp only [o_al, o_il, o_ic, o_ii, o_iald, o_ic2, o_bad, nth_1, nth_0, nth_4, nth_2, opV_2, al_6, ix_6, hc.a6, al_7, ix_7, hs.a7, cats_nil, cats_cons, rf_s, rf_n, isR_r, isR_n, isR_rf, cat_i, cat_l, cat_r, cat_n, cat_rf, unl_i, unl_l, unl_r, unl_n, unl_j, unl_rf, orf_r, orf_n, orf_rf, rf_null, mA_pm, mL_pm, mP_pm, List.length_cons, List.length_nil, List.cons_append, List.nil_append, Nat.reduceAdd, Nat.reduceLeDiff, Nat.reduceLT, Nat.reduceEqDiff, Nat.zero_add, Nat.add_zero, Nat.le_refl, Nat.zero_le, true_and, and_true, true_or, or_true, false_or, or_false, reduceIte, kd_127, ix_127, cI_127, v4, v5, r1, r2, p1, p2, hs1.a7, w4, w5]
  refine km _ (fun M1 hI1 => ?_)
  simp only [o_al, o_il, o_ic, o_ii, o_iald, o_ic2, o_bad, nth_1, nth_0, nth_4, nth_2, opV_2, al_6, ix_6, hc.a6, al_7, ix_7, hs.a7, cats_nil, cats_cons, rf_s, rf_n, isR_r, isR_n, isR_rf, cat_i, cat_l, cat_r, cat_n, cat_rf, unl_i, unl_l, unl_r, unl_n, unl_j, unl_rf, orf_r, orf_n, orf_rf, rf_null, mA_pm, mL_pm, mP_pm, List.length_cons, List.length_nil, List.cons_append, List.nil_append, Nat.reduceAdd, Nat.reduceLeDiff, Nat.reduceLT, Nat.reduceEqDiff, Nat.zero_add, Nat.add_zero, Nat.le_refl, Nat.zero_le, true_and, and_true, true_or, or_true, false_or, or_false, reduceIte, kd_127, ix_127, cI_127, v4, v5, r1, r2, p1, p2]
  first
    | exact ⟨fun _ => K _ _ _ _ _ _ _ (hI1.up (by omega)) (by omega) (by omega), fun z => absurd rfl z⟩
    | exact ⟨fun _ => K _ _ _ _ _ _ _ (hI1.up (by omega)) (by omega) (by omega), fun z => absurd trivial z⟩
theorem lc_623 (hb : ∀ ls st h n1 n2, B_L_law_623 l D (d + 20) base sa X ls st h n1 n2 → X 623 ls st h n1 n2) (hj : 6 * j + 6 ≤ L) (hL : L ≤ 3072) (hB : B + 400 < 1000000) (hI : INB L xs c M B) (hn1 : n1 + 2 ≤ 601024) (hn2 : n2 + 69 ≤ 7293034) (K : KC L xs j (B + 400) n1 n2 (X 860)) (u v w : Value) : X 623 [.ref (ob 127 0), .ref (ob 6 0), .ref (ob 7 0), .ref (ob 90 0), .int (nI (6 * j)), u, v, w] [] (pm c M) n1 n2 := by
  obtain ⟨hc, hs, hV⟩ := hI.skl
  obtain ⟨v1, v2, v3, v4, v5⟩ := id hV
  obtain ⟨p1, p2, p3, p4, p5⟩ := at_in hj hL
  have r1 : n1 ≤ 601024 := by omega
  have r2 : n2 ≤ 7293034 := by omega
  apply hb
  simp only [B_L_law_623, o_al, o_il, o_ic, o_ii, o_iald, o_ic2, o_bad, nth_1, nth_0, nth_4, nth_2, opV_1, al_6, ix_6, hc.a6, al_7, ix_7, hs.a7, cats_nil, cats_cons, rf_s, rf_n, isR_r, isR_n, isR_rf, cat_i, cat_l, cat_r, cat_n, cat_rf, unl_i, unl_l, unl_r, unl_n, unl_j, unl_rf, orf_r, orf_n, orf_rf, rf_null, mA_pm, mL_pm, mP_pm, List.length_cons, List.length_nil, List.cons_append, List.nil_append, Nat.reduceAdd, Nat.reduceLeDiff, Nat.reduceLT, Nat.reduceEqDiff, Nat.zero_add, Nat.add_zero, Nat.le_refl, Nat.zero_le, true_and, and_true, true_or, or_true, false_or, or_false, reduceIte, kd_127, ix_127, cI_127, v4, v5, r1, r2, p1]
  refine op_breaks hI _ (fun r c1 hp km => ?_)
  obtain ⟨hs1, w1, w2, w3, w4, w5⟩ := hp
  simp only [o_al, o_il, o_ic, o_ii, o_iald, o_ic2, o_bad, nth_1, nth_0, nth_4, nth_2, opV_1, al_6, ix_6, hc.a6, al_7, ix_7, hs.a7, cats_nil, cats_cons, rf_s, rf_n, isR_r, isR_n, isR_rf, cat_i, cat_l, cat_r, cat_n, cat_rf, unl_i, unl_l, unl_r, unl_n, unl_j, unl_rf, orf_r, orf_n, orf_rf, rf_null, mA_pm, mL_pm, mP_pm, List.length_cons, List.length_nil, List.cons_append, List.nil_append, Nat.reduceAdd, Nat.reduceLeDiff, Nat.reduceLT, Nat.reduceEqDiff, Nat.zero_add, Nat.add_zero, Nat.le_refl, Nat.zero_le, true_and, and_true, true_or, or_true, false_or, or_false, reduceIte, kd_127, ix_127, cI_127, v4, v5, r1, r2, p1, hs1.a7, w4, w5]
  refine km _ (fun M1 hI1 => ?_)
  simp only [o_al, o_il, o_ic, o_ii, o_iald, o_ic2, o_bad, nth_1, nth_0, nth_4, nth_2, opV_1, al_6, ix_6, hc.a6, al_7, ix_7, hs.a7, cats_nil, cats_cons, rf_s, rf_n, isR_r, isR_n, isR_rf, cat_i, cat_l, cat_r, cat_n, cat_rf, unl_i, unl_l, unl_r, unl_n, unl_j, unl_rf, orf_r, orf_n, orf_rf, rf_null, mA_pm, mL_pm, mP_pm, List.length_cons, List.length_nil, List.cons_append, List.nil_append, Nat.reduceAdd, Nat.reduceLeDiff, Nat.reduceLT, Nat.reduceEqDiff, Nat.zero_add, Nat.add_zero, Nat.le_refl, Nat.zero_le, true_and, and_true, true_or, or_true, false_or, or_false, reduceIte, kd_127, ix_127, cI_127, v4, v5, r1, r2, p1]
  first
    | exact ⟨fun _ => K _ _ _ _ _ _ _ (hI1.up (by omega)) (by omega) (by omega), fun z => absurd rfl z⟩
    | exact ⟨fun _ => K _ _ _ _ _ _ _ (hI1.up (by omega)) (by omega) (by omega), fun z => absurd trivial z⟩
theorem lc_648 (hb : ∀ ls st h n1 n2, B_L_law_648 l D (d + 20) base sa X ls st h n1 n2 → X 648 ls st h n1 n2) (hj : 6 * j + 6 ≤ L) (hL : L ≤ 3072) (hB : B + 400 < 1000000) (hI : INB L xs c M B) (hn1 : n1 + 2 ≤ 601024) (hn2 : n2 + 69 ≤ 7293034) (K : KC L xs j (B + 400) n1 n2 (X 860)) (u v w : Value) : X 648 [.ref (ob 127 0), .ref (ob 6 0), .ref (ob 7 0), .ref (ob 90 0), .int (nI (6 * j)), u, v, w] [] (pm c M) n1 n2 := by
  obtain ⟨hc, hs, hV⟩ := hI.skl
  obtain ⟨v1, v2, v3, v4, v5⟩ := id hV
  obtain ⟨p1, p2, p3, p4, p5⟩ := at_in hj hL
  have r1 : n1 ≤ 601024 := by omega
  have r2 : n2 ≤ 7293034 := by omega
  apply hb
  simp only [B_L_law_648, o_al, o_il, o_ic, o_ii, o_iald, o_ic2, o_bad, nth_1, nth_0, nth_4, nth_2, opV_1, al_6, ix_6, hc.a6, al_7, ix_7, hs.a7, cats_nil, cats_cons, rf_s, rf_n, isR_r, isR_n, isR_rf, cat_i, cat_l, cat_r, cat_n, cat_rf, unl_i, unl_l, unl_r, unl_n, unl_j, unl_rf, orf_r, orf_n, orf_rf, rf_null, mA_pm, mL_pm, mP_pm, List.length_cons, List.length_nil, List.cons_append, List.nil_append, Nat.reduceAdd, Nat.reduceLeDiff, Nat.reduceLT, Nat.reduceEqDiff, Nat.zero_add, Nat.add_zero, Nat.le_refl, Nat.zero_le, true_and, and_true, true_or, or_true, false_or, or_false, reduceIte, kd_127, ix_127, cI_127, v4, v5, r1, r2, p1]
  refine op_mends hI _ (fun r c1 hp km => ?_)
  obtain ⟨hs1, w1, w2, w3, w4, w5⟩ := hp
  simp only [o_al, o_il, o_ic, o_ii, o_iald, o_ic2, o_bad, nth_1, nth_0, nth_4, nth_2, opV_1, al_6, ix_6, hc.a6, al_7, ix_7, hs.a7, cats_nil, cats_cons, rf_s, rf_n, isR_r, isR_n, isR_rf, cat_i, cat_l, cat_r, cat_n, cat_rf, unl_i, unl_l, unl_r, unl_n, unl_j, unl_rf, orf_r, orf_n, orf_rf, rf_null, mA_pm, mL_pm, mP_pm, List.length_cons, List.length_nil, List.cons_append, List.nil_append, Nat.reduceAdd, Nat.reduceLeDiff, Nat.reduceLT, Nat.reduceEqDiff, Nat.zero_add, Nat.add_zero, Nat.le_refl, Nat.zero_le, true_and, and_true, true_or, or_true, false_or, or_false, reduceIte, kd_127, ix_127, cI_127, v4, v5, r1, r2, p1, hs1.a7, w4, w5]
  refine km _ (fun M1 hI1 => ?_)
  simp only [o_al, o_il, o_ic, o_ii, o_iald, o_ic2, o_bad, nth_1, nth_0, nth_4, nth_2, opV_1, al_6, ix_6, hc.a6, al_7, ix_7, hs.a7, cats_nil, cats_cons, rf_s, rf_n, isR_r, isR_n, isR_rf, cat_i, cat_l, cat_r, cat_n, cat_rf, unl_i, unl_l, unl_r, unl_n, unl_j, unl_rf, orf_r, orf_n, orf_rf, rf_null, mA_pm, mL_pm, mP_pm, List.length_cons, List.length_nil, List.cons_append, List.nil_append, Nat.reduceAdd, Nat.reduceLeDiff, Nat.reduceLT, Nat.reduceEqDiff, Nat.zero_add, Nat.add_zero, Nat.le_refl, Nat.zero_le, true_and, and_true, true_or, or_true, false_or, or_false, reduceIte, kd_127, ix_127, cI_127, v4, v5, r1, r2, p1]
  first
    | exact ⟨fun _ => K _ _ _ _ _ _ _ (hI1.up (by omega)) (by omega) (by omega), fun z => absurd rfl z⟩
    | exact ⟨fun _ => K _ _ _ _ _ _ _ (hI1.up (by omega)) (by omega) (by omega), fun z => absurd trivial z⟩
theorem lc_673 (hb : ∀ ls st h n1 n2, B_L_law_673 l D (d + 20) base sa X ls st h n1 n2 → X 673 ls st h n1 n2) (hj : 6 * j + 6 ≤ L) (hL : L ≤ 3072) (hB : B + 400 < 1000000) (hI : INB L xs c M B) (hn1 : n1 + 2 ≤ 601024) (hn2 : n2 + 69 ≤ 7293034) (K : KC L xs j (B + 400) n1 n2 (X 860)) (u v w : Value) : X 673 [.ref (ob 127 0), .ref (ob 6 0), .ref (ob 7 0), .ref (ob 90 0), .int (nI (6 * j)), u, v, w] [] (pm c M) n1 n2 := by
  obtain ⟨hc, hs, hV⟩ := hI.skl
  obtain ⟨v1, v2, v3, v4, v5⟩ := id hV
  obtain ⟨p1, p2, p3, p4, p5⟩ := at_in hj hL
  have r1 : n1 ≤ 601024 := by omega
  have r2 : n2 ≤ 7293034 := by omega
  apply hb
  simp only [B_L_law_673, o_al, o_il, o_ic, o_ii, o_iald, o_ic2, o_bad, nth_1, nth_0, nth_4, nth_2, opV_5, al_6, ix_6, hc.a6, al_7, ix_7, hs.a7, cats_nil, cats_cons, rf_s, rf_n, isR_r, isR_n, isR_rf, cat_i, cat_l, cat_r, cat_n, cat_rf, unl_i, unl_l, unl_r, unl_n, unl_j, unl_rf, orf_r, orf_n, orf_rf, rf_null, mA_pm, mL_pm, mP_pm, List.length_cons, List.length_nil, List.cons_append, List.nil_append, Nat.reduceAdd, Nat.reduceLeDiff, Nat.reduceLT, Nat.reduceEqDiff, Nat.zero_add, Nat.add_zero, Nat.le_refl, Nat.zero_le, true_and, and_true, true_or, or_true, false_or, or_false, reduceIte, kd_127, ix_127, cI_127, v4, v5, r1, r2, p1, p2, p3, p4, p5]
  refine op_copy hI _ _ _ _ _ (fun r c1 hp km => ?_)
  obtain ⟨hs1, w1, w2, w3, w4, w5⟩ := hp
  simp only [o_al, o_il, o_ic, o_ii, o_iald, o_ic2, o_bad, nth_1, nth_0, nth_4, nth_2, opV_5, al_6, ix_6, hc.a6, al_7, ix_7, hs.a7, cats_nil, cats_cons, rf_s, rf_n, isR_r, isR_n, isR_rf, cat_i, cat_l, cat_r, cat_n, cat_rf, unl_i, unl_l, unl_r, unl_n, unl_j, unl_rf, orf_r, orf_n, orf_rf, rf_null, mA_pm, mL_pm, mP_pm, List.length_cons, List.length_nil, List.cons_append, List.nil_append, Nat.reduceAdd, Nat.reduceLeDiff, Nat.reduceLT, Nat.reduceEqDiff, Nat.zero_add, Nat.add_zero, Nat.le_refl, Nat.zero_le, true_and, and_true, true_or, or_true, false_or, or_false, reduceIte, kd_127, ix_127, cI_127, v4, v5, r1, r2, p1, p2, p3, p4, p5, hs1.a7, w4, w5]
  refine km _ (fun M1 hI1 => ?_)
  simp only [o_al, o_il, o_ic, o_ii, o_iald, o_ic2, o_bad, nth_1, nth_0, nth_4, nth_2, opV_5, al_6, ix_6, hc.a6, al_7, ix_7, hs.a7, cats_nil, cats_cons, rf_s, rf_n, isR_r, isR_n, isR_rf, cat_i, cat_l, cat_r, cat_n, cat_rf, unl_i, unl_l, unl_r, unl_n, unl_j, unl_rf, orf_r, orf_n, orf_rf, rf_null, mA_pm, mL_pm, mP_pm, List.length_cons, List.length_nil, List.cons_append, List.nil_append, Nat.reduceAdd, Nat.reduceLeDiff, Nat.reduceLT, Nat.reduceEqDiff, Nat.zero_add, Nat.add_zero, Nat.le_refl, Nat.zero_le, true_and, and_true, true_or, or_true, false_or, or_false, reduceIte, kd_127, ix_127, cI_127, v4, v5, r1, r2, p1, p2, p3, p4, p5]
  first
    | exact ⟨fun _ => K _ _ _ _ _ _ _ (hI1.up (by omega)) (by omega) (by omega), fun z => absurd rfl z⟩
    | exact ⟨fun _ => K _ _ _ _ _ _ _ (hI1.up (by omega)) (by omega) (by omega), fun z => absurd trivial z⟩
theorem lc_746 (hb : ∀ ls st h n1 n2, B_L_law_746 l D (d + 20) base sa X ls st h n1 n2 → X 746 ls st h n1 n2) (hj : 6 * j + 6 ≤ L) (hL : L ≤ 3072) (hB : B + 400 < 1000000) (hI : INB L xs c M B) (hn1 : n1 + 2 ≤ 601024) (hn2 : n2 + 69 ≤ 7293034) (K : KC L xs j (B + 400) n1 n2 (X 860)) (u v w : Value) : X 746 [.ref (ob 127 0), .ref (ob 6 0), .ref (ob 7 0), .ref (ob 90 0), .int (nI (6 * j)), u, v, w] [] (pm c M) n1 n2 := by
  obtain ⟨hc, hs, hV⟩ := hI.skl
  obtain ⟨v1, v2, v3, v4, v5⟩ := id hV
  obtain ⟨p1, p2, p3, p4, p5⟩ := at_in hj hL
  have r1 : n1 ≤ 601024 := by omega
  have r2 : n2 ≤ 7293034 := by omega
  apply hb
  simp only [B_L_law_746, o_al, o_il, o_ic, o_ii, o_iald, o_ic2, o_bad, nth_1, nth_0, nth_4, nth_2, opV_2, al_6, ix_6, hc.a6, al_7, ix_7, hs.a7, cats_nil, cats_cons, rf_s, rf_n, isR_r, isR_n, isR_rf, cat_i, cat_l, cat_r, cat_n, cat_rf, unl_i, unl_l, unl_r, unl_n, unl_j, unl_rf, orf_r, orf_n, orf_rf, rf_null, mA_pm, mL_pm, mP_pm, List.length_cons, List.length_nil, List.cons_append, List.nil_append, Nat.reduceAdd, Nat.reduceLeDiff, Nat.reduceLT, Nat.reduceEqDiff, Nat.zero_add, Nat.add_zero, Nat.le_refl, Nat.zero_le, true_and, and_true, true_or, or_true, false_or, or_false, reduceIte, kd_127, ix_127, cI_127, v4, v5, r1, r2, p1, p2]
  refine op_item hI _ _ (fun r c1 hp km => ?_)
  obtain ⟨hs1, w1, w2, w3, w4, w5⟩ := hp
  simp only [o_al, o_il, o_ic, o_ii, o_iald, o_ic2, o_bad, nth_1, nth_0, nth_4, nth_2, opV_2, al_6, ix_6, hc.a6, al_7, ix_7, hs.a7, cats_nil, cats_cons, rf_s, rf_n, isR_r, isR_n, isR_rf, cat_i, cat_l, cat_r, cat_n, cat_rf, unl_i, unl_l, unl_r, unl_n, unl_j, unl_rf, orf_r, orf_n, orf_rf, rf_null, mA_pm, mL_pm, mP_pm, List.length_cons, List.length_nil, List.cons_append, List.nil_append, Nat.reduceAdd, Nat.reduceLeDiff, Nat.reduceLT, Nat.reduceEqDiff, Nat.zero_add, Nat.add_zero, Nat.le_refl, Nat.zero_le, true_and, and_true, true_or, or_true, false_or, or_false, reduceIte, kd_127, ix_127, cI_127, v4, v5, r1, r2, p1, p2, hs1.a7, w4, w5]
  refine km _ (fun M1 hI1 => ?_)
  simp only [o_al, o_il, o_ic, o_ii, o_iald, o_ic2, o_bad, nth_1, nth_0, nth_4, nth_2, opV_2, al_6, ix_6, hc.a6, al_7, ix_7, hs.a7, cats_nil, cats_cons, rf_s, rf_n, isR_r, isR_n, isR_rf, cat_i, cat_l, cat_r, cat_n, cat_rf, unl_i, unl_l, unl_r, unl_n, unl_j, unl_rf, orf_r, orf_n, orf_rf, rf_null, mA_pm, mL_pm, mP_pm, List.length_cons, List.length_nil, List.cons_append, List.nil_append, Nat.reduceAdd, Nat.reduceLeDiff, Nat.reduceLT, Nat.reduceEqDiff, Nat.zero_add, Nat.add_zero, Nat.le_refl, Nat.zero_le, true_and, and_true, true_or, or_true, false_or, or_false, reduceIte, kd_127, ix_127, cI_127, v4, v5, r1, r2, p1, p2]
  first
    | exact ⟨fun _ => K _ _ _ _ _ _ _ (hI1.up (by omega)) (by omega) (by omega), fun z => absurd rfl z⟩
    | exact ⟨fun _ => K _ _ _ _ _ _ _ (hI1.up (by omega)) (by omega) (by omega), fun z => absurd trivial z⟩
theorem lc_783 (hb : ∀ ls st h n1 n2, B_L_law_783 l D (d + 20) base sa X ls st h n1 n2 → X 783 ls st h n1 n2) (hj : 6 * j + 6 ≤ L) (hL : L ≤ 3072) (hB : B + 400 < 1000000) (hI : INB L xs c M B) (hn1 : n1 + 2 ≤ 601024) (hn2 : n2 + 69 ≤ 7293034) (K : KC L xs j (B + 400) n1 n2 (X 860)) (u v w : Value) : X 783 [.ref (ob 127 0), .ref (ob 6 0), .ref (ob 7 0), .ref (ob 90 0), .int (nI (6 * j)), u, v, w] [] (pm c M) n1 n2 := by
  obtain ⟨hc, hs, hV⟩ := hI.skl
  obtain ⟨v1, v2, v3, v4, v5⟩ := id hV
  obtain ⟨p1, p2, p3, p4, p5⟩ := at_in hj hL
  have r1 : n1 ≤ 601024 := by omega
  have r2 : n2 ≤ 7293034 := by omega
  apply hb
  simp only [B_L_law_783, o_al, o_lcmp, o_if, o_bad, nth_1, nth_2, opV_0, al_6, ix_6, hc.a6, al_7, ix_7, hs.a7, cats_nil, cats_cons, rf_s, rf_n, isR_r, isR_n, isR_rf, cat_i, cat_l, cat_r, cat_n, cat_rf, unl_i, unl_l, unl_r, unl_n, unl_j, unl_rf, orf_r, orf_n, orf_rf, rf_null, mA_pm, mL_pm, mP_pm, List.length_cons, List.length_nil, List.cons_append, List.nil_append, Nat.reduceAdd, Nat.reduceLeDiff, Nat.reduceLT, Nat.reduceEqDiff, Nat.zero_add, Nat.add_zero, Nat.le_refl, Nat.zero_le, true_and, and_true, true_or, or_true, false_or, or_false, reduceIte, kd_127, ix_127, cI_127, v4, v5, r1, r2]
  refine op_laid hI (fun r c1 hp km => ?_)
  obtain ⟨hs1, w1, w2, w3, w4, w5⟩ := hp
  simp only [o_al, o_lcmp, o_if, o_bad, nth_1, nth_2, opV_0, al_6, ix_6, hc.a6, al_7, ix_7, hs.a7, cats_nil, cats_cons, rf_s, rf_n, isR_r, isR_n, isR_rf, cat_i, cat_l, cat_r, cat_n, cat_rf, unl_i, unl_l, unl_r, unl_n, unl_j, unl_rf, orf_r, orf_n, orf_rf, rf_null, mA_pm, mL_pm, mP_pm, List.length_cons, List.length_nil, List.cons_append, List.nil_append, Nat.reduceAdd, Nat.reduceLeDiff, Nat.reduceLT, Nat.reduceEqDiff, Nat.zero_add, Nat.add_zero, Nat.le_refl, Nat.zero_le, true_and, and_true, true_or, or_true, false_or, or_false, reduceIte, kd_127, ix_127, cI_127, v4, v5, r1, r2, hs1.a7, w4, w5]
  refine km _ (fun M1 hI1 => ?_)
  simp only [o_al, o_lcmp, o_if, o_bad, nth_1, nth_2, opV_0, al_6, ix_6, hc.a6, al_7, ix_7, hs.a7, cats_nil, cats_cons, rf_s, rf_n, isR_r, isR_n, isR_rf, cat_i, cat_l, cat_r, cat_n, cat_rf, unl_i, unl_l, unl_r, unl_n, unl_j, unl_rf, orf_r, orf_n, orf_rf, rf_null, mA_pm, mL_pm, mP_pm, List.length_cons, List.length_nil, List.cons_append, List.nil_append, Nat.reduceAdd, Nat.reduceLeDiff, Nat.reduceLT, Nat.reduceEqDiff, Nat.zero_add, Nat.add_zero, Nat.le_refl, Nat.zero_le, true_and, and_true, true_or, or_true, false_or, or_false, reduceIte, kd_127, ix_127, cI_127, v4, v5, r1, r2]
  simp only [lcmp_self]
  first
    | exact ⟨fun _ => K _ _ _ _ _ _ _ (hI1.up (by omega)) (by omega) (by omega), fun z => absurd rfl z⟩
    | exact ⟨fun _ => K _ _ _ _ _ _ _ (hI1.up (by omega)) (by omega) (by omega), fun z => absurd trivial z⟩
theorem lc_797 (hb : ∀ ls st h n1 n2, B_L_law_797 l D (d + 20) base sa X ls st h n1 n2 → X 797 ls st h n1 n2) (hj : 6 * j + 6 ≤ L) (hL : L ≤ 3072) (hB : B + 400 < 1000000) (hI : INB L xs c M B) (hn1 : n1 + 2 ≤ 601024) (hn2 : n2 + 69 ≤ 7293034) (K : KC L xs j (B + 400) n1 n2 (X 860)) (u v w : Value) : X 797 [.ref (ob 127 0), .ref (ob 6 0), .ref (ob 7 0), .ref (ob 90 0), .int (nI (6 * j)), u, v, w] [] (pm c M) n1 n2 := by
  obtain ⟨hc, hs, hV⟩ := hI.skl
  obtain ⟨v1, v2, v3, v4, v5⟩ := id hV
  obtain ⟨p1, p2, p3, p4, p5⟩ := at_in hj hL
  have r1 : n1 ≤ 601024 := by omega
  have r2 : n2 ≤ 7293034 := by omega
  apply hb
  simp only [B_L_law_797, o_al, o_il, o_ic, o_ii, o_iald, o_ic2, o_bad, nth_1, nth_0, nth_4, nth_2, opV_1, al_6, ix_6, hc.a6, al_7, ix_7, hs.a7, cats_nil, cats_cons, rf_s, rf_n, isR_r, isR_n, isR_rf, cat_i, cat_l, cat_r, cat_n, cat_rf, unl_i, unl_l, unl_r, unl_n, unl_j, unl_rf, orf_r, orf_n, orf_rf, rf_null, mA_pm, mL_pm, mP_pm, List.length_cons, List.length_nil, List.cons_append, List.nil_append, Nat.reduceAdd, Nat.reduceLeDiff, Nat.reduceLT, Nat.reduceEqDiff, Nat.zero_add, Nat.add_zero, Nat.le_refl, Nat.zero_le, true_and, and_true, true_or, or_true, false_or, or_false, reduceIte, kd_127, ix_127, cI_127, v4, v5, r1, r2, p1]
  refine op_begins hI _ (fun r c1 hp km => ?_)
  obtain ⟨hs1, w1, w2, w3, w4, w5⟩ := hp
  simp only [o_al, o_il, o_ic, o_ii, o_iald, o_ic2, o_bad, nth_1, nth_0, nth_4, nth_2, opV_1, al_6, ix_6, hc.a6, al_7, ix_7, hs.a7, cats_nil, cats_cons, rf_s, rf_n, isR_r, isR_n, isR_rf, cat_i, cat_l, cat_r, cat_n, cat_rf, unl_i, unl_l, unl_r, unl_n, unl_j, unl_rf, orf_r, orf_n, orf_rf, rf_null, mA_pm, mL_pm, mP_pm, List.length_cons, List.length_nil, List.cons_append, List.nil_append, Nat.reduceAdd, Nat.reduceLeDiff, Nat.reduceLT, Nat.reduceEqDiff, Nat.zero_add, Nat.add_zero, Nat.le_refl, Nat.zero_le, true_and, and_true, true_or, or_true, false_or, or_false, reduceIte, kd_127, ix_127, cI_127, v4, v5, r1, r2, p1, hs1.a7, w4, w5]
  refine km _ (fun M1 hI1 => ?_)
  simp only [o_al, o_il, o_ic, o_ii, o_iald, o_ic2, o_bad, nth_1, nth_0, nth_4, nth_2, opV_1, al_6, ix_6, hc.a6, al_7, ix_7, hs.a7, cats_nil, cats_cons, rf_s, rf_n, isR_r, isR_n, isR_rf, cat_i, cat_l, cat_r, cat_n, cat_rf, unl_i, unl_l, unl_r, unl_n, unl_j, unl_rf, orf_r, orf_n, orf_rf, rf_null, mA_pm, mL_pm, mP_pm, List.length_cons, List.length_nil, List.cons_append, List.nil_append, Nat.reduceAdd, Nat.reduceLeDiff, Nat.reduceLT, Nat.reduceEqDiff, Nat.zero_add, Nat.add_zero, Nat.le_refl, Nat.zero_le, true_and, and_true, true_or, or_true, false_or, or_false, reduceIte, kd_127, ix_127, cI_127, v4, v5, r1, r2, p1]
  first
    | exact ⟨fun _ => K _ _ _ _ _ _ _ (hI1.up (by omega)) (by omega) (by omega), fun z => absurd rfl z⟩
    | exact ⟨fun _ => K _ _ _ _ _ _ _ (hI1.up (by omega)) (by omega) (by omega), fun z => absurd trivial z⟩
theorem lc_822 (hb : ∀ ls st h n1 n2, B_L_law_822 l D (d + 20) base sa X ls st h n1 n2 → X 822 ls st h n1 n2) (hj : 6 * j + 6 ≤ L) (hL : L ≤ 3072) (hB : B + 400 < 1000000) (hI : INB L xs c M B) (hn1 : n1 + 2 ≤ 601024) (hn2 : n2 + 69 ≤ 7293034) (K : KC L xs j (B + 400) n1 n2 (X 860)) (u v w : Value) : X 822 [.ref (ob 127 0), .ref (ob 6 0), .ref (ob 7 0), .ref (ob 90 0), .int (nI (6 * j)), u, v, w] [] (pm c M) n1 n2 := by
  obtain ⟨hc, hs, hV⟩ := hI.skl
  obtain ⟨v1, v2, v3, v4, v5⟩ := id hV
  obtain ⟨p1, p2, p3, p4, p5⟩ := at_in hj hL
  have r1 : n1 ≤ 601024 := by omega
  have r2 : n2 ≤ 7293034 := by omega
  apply hb
  simp only [B_L_law_822, o_al, o_ic2, o_bad, nth_1, nth_2, opV_0, al_6, ix_6, hc.a6, al_7, ix_7, hs.a7, cats_nil, cats_cons, rf_s, rf_n, isR_r, isR_n, isR_rf, cat_i, cat_l, cat_r, cat_n, cat_rf, unl_i, unl_l, unl_r, unl_n, unl_j, unl_rf, orf_r, orf_n, orf_rf, rf_null, mA_pm, mL_pm, mP_pm, List.length_cons, List.length_nil, List.cons_append, List.nil_append, Nat.reduceAdd, Nat.reduceLeDiff, Nat.reduceLT, Nat.reduceEqDiff, Nat.zero_add, Nat.add_zero, Nat.le_refl, Nat.zero_le, true_and, and_true, true_or, or_true, false_or, or_false, reduceIte, kd_127, ix_127, cI_127, v4, v5, r1, r2]
  refine op_clear hI (fun r c1 hp km => ?_)
  obtain ⟨hs1, w1, w2, w3, w4, w5⟩ := hp
  simp only [o_al, o_ic2, o_bad, nth_1, nth_2, opV_0, al_6, ix_6, hc.a6, al_7, ix_7, hs.a7, cats_nil, cats_cons, rf_s, rf_n, isR_r, isR_n, isR_rf, cat_i, cat_l, cat_r, cat_n, cat_rf, unl_i, unl_l, unl_r, unl_n, unl_j, unl_rf, orf_r, orf_n, orf_rf, rf_null, mA_pm, mL_pm, mP_pm, List.length_cons, List.length_nil, List.cons_append, List.nil_append, Nat.reduceAdd, Nat.reduceLeDiff, Nat.reduceLT, Nat.reduceEqDiff, Nat.zero_add, Nat.add_zero, Nat.le_refl, Nat.zero_le, true_and, and_true, true_or, or_true, false_or, or_false, reduceIte, kd_127, ix_127, cI_127, v4, v5, r1, r2, hs1.a7, w4, w5]
  refine km _ (fun M1 hI1 => ?_)
  simp only [o_al, o_ic2, o_bad, nth_1, nth_2, opV_0, al_6, ix_6, hc.a6, al_7, ix_7, hs.a7, cats_nil, cats_cons, rf_s, rf_n, isR_r, isR_n, isR_rf, cat_i, cat_l, cat_r, cat_n, cat_rf, unl_i, unl_l, unl_r, unl_n, unl_j, unl_rf, orf_r, orf_n, orf_rf, rf_null, mA_pm, mL_pm, mP_pm, List.length_cons, List.length_nil, List.cons_append, List.nil_append, Nat.reduceAdd, Nat.reduceLeDiff, Nat.reduceLT, Nat.reduceEqDiff, Nat.zero_add, Nat.add_zero, Nat.le_refl, Nat.zero_le, true_and, and_true, true_or, or_true, false_or, or_false, reduceIte, kd_127, ix_127, cI_127, v4, v5, r1, r2]
  first
    | exact ⟨fun _ => K _ _ _ _ _ _ _ (hI1.up (by omega)) (by omega) (by omega), fun z => absurd rfl z⟩
    | exact ⟨fun _ => K _ _ _ _ _ _ _ (hI1.up (by omega)) (by omega) (by omega), fun z => absurd trivial z⟩
theorem lc_835 (hb : ∀ ls st h n1 n2, B_L_law_835 l D (d + 20) base sa X ls st h n1 n2 → X 835 ls st h n1 n2) (hj : 6 * j + 6 ≤ L) (hL : L ≤ 3072) (hB : B + 400 < 1000000) (hI : INB L xs c M B) (hn1 : n1 + 2 ≤ 601024) (hn2 : n2 + 69 ≤ 7293034) (K : KC L xs j (B + 400) n1 n2 (X 860)) (u v w : Value) : X 835 [.ref (ob 127 0), .ref (ob 6 0), .ref (ob 7 0), .ref (ob 90 0), .int (nI (6 * j)), u, v, w] [] (pm c M) n1 n2 := by
  obtain ⟨hc, hs, hV⟩ := hI.skl
  obtain ⟨v1, v2, v3, v4, v5⟩ := id hV
  obtain ⟨p1, p2, p3, p4, p5⟩ := at_in hj hL
  have r1 : n1 ≤ 601024 := by omega
  have r2 : n2 ≤ 7293034 := by omega
  apply hb
  simp only [B_L_law_835, o_al, o_il, o_ic, o_ii, o_iald, o_ic2, o_bad, nth_1, nth_0, nth_4, nth_2, opV_1, al_6, ix_6, hc.a6, al_7, ix_7, hs.a7, cats_nil, cats_cons, rf_s, rf_n, isR_r, isR_n, isR_rf, cat_i, cat_l, cat_r, cat_n, cat_rf, unl_i, unl_l, unl_r, unl_n, unl_j, unl_rf, orf_r, orf_n, orf_rf, rf_null, mA_pm, mL_pm, mP_pm, List.length_cons, List.length_nil, List.cons_append, List.nil_append, Nat.reduceAdd, Nat.reduceLeDiff, Nat.reduceLT, Nat.reduceEqDiff, Nat.zero_add, Nat.add_zero, Nat.le_refl, Nat.zero_le, true_and, and_true, true_or, or_true, false_or, or_false, reduceIte, kd_127, ix_127, cI_127, v4, v5, r1, r2, p1]
  refine op_count hI _ (fun r km => ?_)
  simp only [o_al, o_il, o_ic, o_ii, o_iald, o_ic2, o_bad, nth_1, nth_0, nth_4, nth_2, opV_1, al_6, ix_6, hc.a6, al_7, ix_7, hs.a7, cats_nil, cats_cons, rf_s, rf_n, isR_r, isR_n, isR_rf, cat_i, cat_l, cat_r, cat_n, cat_rf, unl_i, unl_l, unl_r, unl_n, unl_j, unl_rf, orf_r, orf_n, orf_rf, rf_null, mA_pm, mL_pm, mP_pm, List.length_cons, List.length_nil, List.cons_append, List.nil_append, Nat.reduceAdd, Nat.reduceLeDiff, Nat.reduceLT, Nat.reduceEqDiff, Nat.zero_add, Nat.add_zero, Nat.le_refl, Nat.zero_le, true_and, and_true, true_or, or_true, false_or, or_false, reduceIte, kd_127, ix_127, cI_127, v4, v5, r1, r2, p1]
  refine km _ (fun M1 hI1 => ?_)
  simp only [o_al, o_il, o_ic, o_ii, o_iald, o_ic2, o_bad, nth_1, nth_0, nth_4, nth_2, opV_1, al_6, ix_6, hc.a6, al_7, ix_7, hs.a7, cats_nil, cats_cons, rf_s, rf_n, isR_r, isR_n, isR_rf, cat_i, cat_l, cat_r, cat_n, cat_rf, unl_i, unl_l, unl_r, unl_n, unl_j, unl_rf, orf_r, orf_n, orf_rf, rf_null, mA_pm, mL_pm, mP_pm, List.length_cons, List.length_nil, List.cons_append, List.nil_append, Nat.reduceAdd, Nat.reduceLeDiff, Nat.reduceLT, Nat.reduceEqDiff, Nat.zero_add, Nat.add_zero, Nat.le_refl, Nat.zero_le, true_and, and_true, true_or, or_true, false_or, or_false, reduceIte, kd_127, ix_127, cI_127, v4, v5, r1, r2, p1]
  first
    | exact ⟨fun _ => K _ _ _ _ _ _ _ (hI1.up (by omega)) (by omega) (by omega), fun z => absurd rfl z⟩
    | exact ⟨fun _ => K _ _ _ _ _ _ _ (hI1.up (by omega)) (by omega) (by omega), fun z => absurd trivial z⟩
end ZCALLS
