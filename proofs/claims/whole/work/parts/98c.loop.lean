/-! the law's call of cell, and its loop -/
section ZLOOP
variable {l : Launch} {D : DD} {d base sa L B j n1 n2 : Nat} {xs : Nat → Int32} {c : HP} {M : MD} {X : Nat → KT}
theorem lc_444 (hst : l.stackTraces = false) (hb : ∀ ls st h n1 n2, B_L_law_444 l D (d + 20) base sa X ls st h n1 n2 → X 444 ls st h n1 n2) (hb2 : ∀ ls st h n1 n2, B_L_law_492 l D (d + 20) base sa X ls st h n1 n2 → X 492 ls st h n1 n2) (hb3 : ∀ ls st h n1 n2, B_L_law_508 l D (d + 20) base sa X ls st h n1 n2 → X 508 ls st h n1 n2) (hj : 6 * j + 6 ≤ L) (hL : L ≤ 3072) (hB : B + 400 < 1000000) (hI : INB L xs c M B) (hn1 : n1 + 2 ≤ 601024) (hn2 : n2 + 69 ≤ 7293034) (K : KC L xs j (B + 400) n1 n2 (X 860)) (u v w : Value) : X 444 [.ref (ob 127 0), .ref (ob 6 0), .ref (ob 7 0), .ref (ob 90 0), .int (nI (6 * j)), u, v, w] [] (pm c M) n1 n2 := by
  obtain ⟨hc, hs, hV⟩ := hI.skl
  obtain ⟨v1, v2, v3, v4, v5⟩ := id hV
  obtain ⟨p1, p2, p3, p4, p5⟩ := at_in hj hL
  have r1 : n1 + 1 ≤ 601024 := by omega
  have r2 : n2 + 6 ≤ 7293034 := by omega
  apply hb
  simp only [B_L_law_444, o_al, o_il, o_ic, o_ii, o_iald, o_lcell, o_is, o_ls, o_ic2, o_bad, nth_1, nth_0, nth_4, nth_3, lset_5, nth_2, lsq_6, nth_5, opV_2, opV_0, al_7, ix_7, hs.a7, cats_nil, cats_cons, rf_s, rf_n, isR_r, isR_n, isR_rf, cat_i, cat_l, cat_r, cat_n, cat_rf, unl_i, unl_l, unl_r, unl_n, unl_j, unl_rf, orf_r, orf_n, orf_rf, rf_null, mA_pm, mL_pm, mP_pm, List.length_cons, List.length_nil, List.cons_append, List.nil_append, Nat.reduceAdd, Nat.reduceLeDiff, Nat.reduceLT, Nat.reduceEqDiff, Nat.zero_add, Nat.add_zero, Nat.le_refl, Nat.zero_le, true_and, and_true, true_or, or_true, false_or, or_false, reduceIte, o_lcell, kd_127, ix_127, cI_127, v4, v5, r1, r2, p1, p2]
  refine op_cell hst hI _ _ (fun r c1 hp km => ?_)
  obtain ⟨hs1, w1, w2, w3, w4, w5⟩ := hp
  simp only [o_al, o_il, o_ic, o_ii, o_iald, o_lcell, o_is, o_ls, o_ic2, o_bad, nth_1, nth_0, nth_4, nth_3, lset_5, nth_2, lsq_6, nth_5, opV_2, opV_0, al_7, ix_7, hs.a7, cats_nil, cats_cons, rf_s, rf_n, isR_r, isR_n, isR_rf, cat_i, cat_l, cat_r, cat_n, cat_rf, unl_i, unl_l, unl_r, unl_n, unl_j, unl_rf, orf_r, orf_n, orf_rf, rf_null, mA_pm, mL_pm, mP_pm, List.length_cons, List.length_nil, List.cons_append, List.nil_append, Nat.reduceAdd, Nat.reduceLeDiff, Nat.reduceLT, Nat.reduceEqDiff, Nat.zero_add, Nat.add_zero, Nat.le_refl, Nat.zero_le, true_and, and_true, true_or, or_true, false_or, or_false, reduceIte, kd_127, ix_127, cI_127, v4, v5, r1, r2, p1, p2, hs1.a7, w4, w5]
  refine km _ (fun r' x M1 hI1 e1 e2 e3 => ?_)
  simp only [o_al, o_il, o_ic, o_ii, o_iald, o_lcell, o_is, o_ls, o_ic2, o_bad, nth_1, nth_0, nth_4, nth_3, lset_5, nth_2, lsq_6, nth_5, opV_2, opV_0, al_7, ix_7, hs.a7, cats_nil, cats_cons, rf_s, rf_n, isR_r, isR_n, isR_rf, cat_i, cat_l, cat_r, cat_n, cat_rf, unl_i, unl_l, unl_r, unl_n, unl_j, unl_rf, orf_r, orf_n, orf_rf, rf_null, mA_pm, mL_pm, mP_pm, List.length_cons, List.length_nil, List.cons_append, List.nil_append, Nat.reduceAdd, Nat.reduceLeDiff, Nat.reduceLT, Nat.reduceEqDiff, Nat.zero_add, Nat.add_zero, Nat.le_refl, Nat.zero_le, true_and, and_true, true_or, or_true, false_or, or_false, reduceIte, hs1.a7, r1, r2]
  refine sp_thrown hs1 ?_
  simp only [o_al, o_il, o_ic, o_ii, o_iald, o_lcell, o_is, o_ls, o_ic2, o_bad, nth_1, nth_0, nth_4, nth_3, lset_5, nth_2, lsq_6, nth_5, opV_2, opV_0, al_7, ix_7, hs.a7, cats_nil, cats_cons, rf_s, rf_n, isR_r, isR_n, isR_rf, cat_i, cat_l, cat_r, cat_n, cat_rf, unl_i, unl_l, unl_r, unl_n, unl_j, unl_rf, orf_r, orf_n, orf_rf, rf_null, mA_pm, mL_pm, mP_pm, List.length_cons, List.length_nil, List.cons_append, List.nil_append, Nat.reduceAdd, Nat.reduceLeDiff, Nat.reduceLT, Nat.reduceEqDiff, Nat.zero_add, Nat.add_zero, Nat.le_refl, Nat.zero_le, true_and, and_true, true_or, or_true, false_or, or_false, reduceIte]
  refine ⟨fun _ => ?_, fun z => absurd (e1.trans e2.symm) z⟩
  have k508 : X 508 [.ref (ob 127 0), .ref (ob 6 0), .ref (ob 7 0), .ref (ob 90 0), .int (nI (6 * j)), .int r, .long r', jk] [] (pm c1 M1) (n1 + 1) (n2 + 6) := hb3 _ _ _ _ _ (K _ _ _ _ _ _ _ (hI1.up (by omega)) (by omega) (by omega))
  apply hb2
  have hin : vp_in 0 1 := by
    unfold vp_in
    decide
  simp only [B_L_law_492, o_il, o_if, o_al, o_ic, o_lald, o_ll, o_lcmp, o_bad, nth_5, nth_3, nth_6, cats_nil, cats_cons, rf_s, rf_n, isR_r, isR_n, isR_rf, cat_i, cat_l, cat_r, cat_n, cat_rf, unl_i, unl_l, unl_r, unl_n, unl_j, unl_rf, orf_r, orf_n, orf_rf, rf_null, mA_pm, mL_pm, mP_pm, List.length_cons, List.length_nil, List.cons_append, List.nil_append, Nat.reduceAdd, Nat.reduceLeDiff, Nat.reduceLT, Nat.reduceEqDiff, Nat.zero_add, Nat.add_zero, Nat.le_refl, Nat.zero_le, true_and, and_true, true_or, or_true, false_or, or_false, reduceIte, kd_90, ix_90, cJ_90, w2, hin]
  refine ⟨fun z => ?_, fun _ => k508⟩
  have e4 := e3 z
  rw [show mJ c1 90 (Int32.toNatClampNeg 0) 0 = r' from e4, lcmp_self]
  exact ⟨fun _ => k508, fun z => absurd rfl z⟩
theorem tgo_in {lo hi : Int} {dflt : Nat} {tg : List Nat} {x : Int32} : tgo lo hi dflt tg x = dflt ∨ tgo lo hi dflt tg x ∈ tg := by
  unfold tgo
  split
  · exact Or.inl rfl
  · by_cases h : (x.toInt - lo).toNat < tg.length
    · right
      rw [List.getD_eq_getElem?_getD, List.getElem?_eq_getElem h]
      exact List.getElem_mem h
    · left
      rw [List.getD_eq_getElem?_getD, List.getElem?_eq_none (by omega)]
      rfl
theorem len6 {a : Nat} (hL : L ≤ 3072) (ha : a ≤ 4000) : (nI L - 6 < nI a) = (L < a + 6) := by
  by_cases h : 6 ≤ L
  · obtain ⟨b, rfl⟩ : ∃ b, L = b + 6 := ⟨L - 6, by omega⟩
    rw [show nI (b + 6) - 6 = nI b by rw [← nI_add, show nI 6 = 6 from rfl, Int32.add_sub_cancel], nI_lt_iff]
    exact propext ⟨fun _ => by omega, fun _ => by omega⟩
  · refine propext ⟨fun _ => by omega, fun _ => Int32.lt_of_lt_of_le (b := 0) ?_ (Int32.not_lt.mp (nI_ge0 (by omega)))⟩
    have : L = 0 ∨ L = 1 ∨ L = 2 ∨ L = 3 ∨ L = 4 ∨ L = 5 := by omega
    rcases this with rfl | rfl | rfl | rfl | rfl | rfl <;> decide
set_option maxHeartbeats 1000000 in
theorem lc_loop (hst : l.stackTraces = false) (h23 : ∀ ls st h n1 n2, B_L_law_23 l D (d + 20) base sa X ls st h n1 n2 → X 23 ls st h n1 n2) (h136 : ∀ ls st h n1 n2, B_L_law_136 l D (d + 20) base sa X ls st h n1 n2 → X 136 ls st h n1 n2) (h185 : ∀ ls st h n1 n2, B_L_law_185 l D (d + 20) base sa X ls st h n1 n2 → X 185 ls st h n1 n2) (h210 : ∀ ls st h n1 n2, B_L_law_210 l D (d + 20) base sa X ls st h n1 n2 → X 210 ls st h n1 n2) (h247 : ∀ ls st h n1 n2, B_L_law_247 l D (d + 20) base sa X ls st h n1 n2 → X 247 ls st h n1 n2) (h308 : ∀ ls st h n1 n2, B_L_law_308 l D (d + 20) base sa X ls st h n1 n2 → X 308 ls st h n1 n2) (h333 : ∀ ls st h n1 n2, B_L_law_333 l D (d + 20) base sa X ls st h n1 n2 → X 333 ls st h n1 n2) (h370 : ∀ ls st h n1 n2, B_L_law_370 l D (d + 20) base sa X ls st h n1 n2 → X 370 ls st h n1 n2) (h407 : ∀ ls st h n1 n2, B_L_law_407 l D (d + 20) base sa X ls st h n1 n2 → X 407 ls st h n1 n2) (h444 : ∀ ls st h n1 n2, B_L_law_444 l D (d + 20) base sa X ls st h n1 n2 → X 444 ls st h n1 n2) (h492 : ∀ ls st h n1 n2, B_L_law_492 l D (d + 20) base sa X ls st h n1 n2 → X 492 ls st h n1 n2) (h508 : ∀ ls st h n1 n2, B_L_law_508 l D (d + 20) base sa X ls st h n1 n2 → X 508 ls st h n1 n2) (h511 : ∀ ls st h n1 n2, B_L_law_511 l D (d + 20) base sa X ls st h n1 n2 → X 511 ls st h n1 n2) (h549 : ∀ ls st h n1 n2, B_L_law_549 l D (d + 20) base sa X ls st h n1 n2 → X 549 ls st h n1 n2) (h586 : ∀ ls st h n1 n2, B_L_law_586 l D (d + 20) base sa X ls st h n1 n2 → X 586 ls st h n1 n2) (h623 : ∀ ls st h n1 n2, B_L_law_623 l D (d + 20) base sa X ls st h n1 n2 → X 623 ls st h n1 n2) (h648 : ∀ ls st h n1 n2, B_L_law_648 l D (d + 20) base sa X ls st h n1 n2 → X 648 ls st h n1 n2) (h673 : ∀ ls st h n1 n2, B_L_law_673 l D (d + 20) base sa X ls st h n1 n2 → X 673 ls st h n1 n2) (h746 : ∀ ls st h n1 n2, B_L_law_746 l D (d + 20) base sa X ls st h n1 n2 → X 746 ls st h n1 n2) (h783 : ∀ ls st h n1 n2, B_L_law_783 l D (d + 20) base sa X ls st h n1 n2 → X 783 ls st h n1 n2) (h797 : ∀ ls st h n1 n2, B_L_law_797 l D (d + 20) base sa X ls st h n1 n2 → X 797 ls st h n1 n2) (h822 : ∀ ls st h n1 n2, B_L_law_822 l D (d + 20) base sa X ls st h n1 n2 → X 822 ls st h n1 n2) (h835 : ∀ ls st h n1 n2, B_L_law_835 l D (d + 20) base sa X ls st h n1 n2 → X 835 ls st h n1 n2) (h860 : ∀ ls st h n1 n2, B_L_law_860 l D (d + 20) base sa X ls st h n1 n2 → X 860 ls st h n1 n2) (h866 : ∀ ls st h n1 n2, B_L_law_866 l D (d + 20) base sa X ls st h n1 n2 → X 866 ls st h n1 n2) (hL : L ≤ 3072) : ∀ (k j : Nat), j + k = 513 → ∀ (c : HP) (M : MD) (n1 n2 : Nat) (u v w : Value), INB L xs c M (400 * j) → n1 ≤ 57 + 2 * j → n2 ≤ 9244 + 69 * j → X 23 [.ref (ob 127 0), .ref (ob 6 0), .ref (ob 7 0), .ref (ob 90 0), .int (nI (6 * j)), u, v, w] [] (pm c M) n1 n2 := by
  intro k
  induction k with
  | zero =>
    intro j hk c M n1 n2 u v w hI hn1 hn2
    obtain ⟨hc, hs, hV⟩ := hI.skl
    obtain ⟨v1, v2, v3, v4, v5⟩ := id hV
    apply h23
    simp only [B_L_law_23, o_il, o_al, o_alen, o_ic, o_ii, o_ic2, o_iald, o_tsw, nth_4, nth_0, cats_nil, cats_cons, rf_s, rf_n, isR_r, isR_n, isR_rf, cat_i, cat_l, cat_r, cat_n, cat_rf, unl_i, unl_l, unl_r, unl_n, unl_j, unl_rf, orf_r, orf_n, orf_rf, rf_null, mA_pm, mL_pm, mP_pm, List.length_cons, List.length_nil, List.cons_append, List.nil_append, Nat.reduceAdd, Nat.reduceLeDiff, Nat.reduceLT, Nat.reduceEqDiff, Nat.zero_add, Nat.add_zero, Nat.le_refl, Nat.zero_le, true_and, and_true, true_or, or_true, false_or, or_false, reduceIte, kd_127, ix_127, cI_127, v4, v5]
    refine ⟨fun _ => h866 _ _ _ _ _ rfl, fun z => absurd ?_ z⟩
    rw [show Int32.ofNat L = nI L from rfl, len6 hL (by omega)]
    omega
  | succ k ih =>
    intro j hk c M n1 n2 u v w hI hn1 hn2
    obtain ⟨hc, hs, hV⟩ := hI.skl
    obtain ⟨v1, v2, v3, v4, v5⟩ := id hV
    apply h23
    simp only [B_L_law_23, o_il, o_al, o_alen, o_ic, o_ii, o_ic2, o_iald, o_tsw, nth_4, nth_0, cats_nil, cats_cons, rf_s, rf_n, isR_r, isR_n, isR_rf, cat_i, cat_l, cat_r, cat_n, cat_rf, unl_i, unl_l, unl_r, unl_n, unl_j, unl_rf, orf_r, orf_n, orf_rf, rf_null, mA_pm, mL_pm, mP_pm, List.length_cons, List.length_nil, List.cons_append, List.nil_append, Nat.reduceAdd, Nat.reduceLeDiff, Nat.reduceLT, Nat.reduceEqDiff, Nat.zero_add, Nat.add_zero, Nat.le_refl, Nat.zero_le, true_and, and_true, true_or, or_true, false_or, or_false, reduceIte, kd_127, ix_127, cI_127, v4, v5]
    refine ⟨fun _ => h866 _ _ _ _ _ rfl, fun z => ?_⟩
    rw [show Int32.ofNat L = nI L from rfl, len6 hL (by omega)] at z
    have hj : 6 * j + 6 ≤ L := by omega
    have K : KC L xs j (400 * j + 400) n1 n2 (X 860) := fun c1 M1 m1 m2 u1 v1 w1 g1 g2 g3 => by
      apply h860
      simp only [B_L_law_860, o_inc, nth_4, lset_4, cats_nil, cats_cons, rf_s, rf_n, isR_r, isR_n, isR_rf, cat_i, cat_l, cat_r, cat_n, cat_rf, unl_i, unl_l, unl_r, unl_n, unl_j, unl_rf, orf_r, orf_n, orf_rf, rf_null, mA_pm, mL_pm, mP_pm, List.length_cons, List.length_nil, List.cons_append, List.nil_append, Nat.reduceAdd, Nat.reduceLeDiff, Nat.reduceLT, Nat.reduceEqDiff, Nat.zero_add, Nat.add_zero, Nat.le_refl, Nat.zero_le, true_and, and_true, true_or, or_true, false_or, or_false, reduceIte]
      rw [show nI (6 * j) + 6 = nI (6 * (j + 1)) by rw [show (6 : Int32) = nI 6 from rfl, nI_add]; congr 1]
      exact ih (j + 1) (by omega) c1 M1 m1 m2 u1 v1 w1 (by rw [show 400 * (j + 1) = 400 * j + 400 by omega]; exact g1) (by omega) (by omega)
    refine ⟨?_, ?_⟩
    · unfold vp_in
      rw [nI_clamp (by omega)]
      rintro (q | q)
      · exact absurd q (nI_ge0 (by omega))
      · omega
    rcases tgo_in (lo := 0) (hi := 19) (dflt := 860) (tg := [136, 185, 210, 247, 308, 333, 370, 407, 444, 511, 549, 586, 623, 648, 673, 746, 783, 797, 822, 835]) (x := xs (nI (6 * j)).toNatClampNeg &&& 31) with q | q
    · rw [q]
      exact K _ _ _ _ _ _ _ (hI.up (by omega)) (by omega) (by omega)
    revert q
    generalize tgo 0 19 860 [136, 185, 210, 247, 308, 333, 370, 407, 444, 511, 549, 586, 623, 648, 673, 746, 783, 797, 822, 835] (xs (nI (6 * j)).toNatClampNeg &&& 31) = y
    intro q
    simp only [List.mem_cons, List.not_mem_nil, or_false] at q
    rcases q with rfl | rfl | rfl | rfl | rfl | rfl | rfl | rfl | rfl | rfl | rfl | rfl | rfl | rfl | rfl | rfl | rfl | rfl | rfl | rfl
    · exact lc_136 h136 hj hL (by omega) hI (by omega) (by omega) K u v w
    · exact lc_185 h185 hj hL (by omega) hI (by omega) (by omega) K u v w
    · exact lc_210 h210 hj hL (by omega) hI (by omega) (by omega) K u v w
    · exact lc_247 h247 hj hL (by omega) hI (by omega) (by omega) K u v w
    · exact lc_308 h308 hj hL (by omega) hI (by omega) (by omega) K u v w
    · exact lc_333 h333 hj hL (by omega) hI (by omega) (by omega) K u v w
    · exact lc_370 h370 hj hL (by omega) hI (by omega) (by omega) K u v w
    · exact lc_407 h407 hj hL (by omega) hI (by omega) (by omega) K u v w
    · exact lc_444 hst h444 h492 h508 hj hL (by omega) hI (by omega) (by omega) K u v w
    · exact lc_511 h511 hj hL (by omega) hI (by omega) (by omega) K u v w
    · exact lc_549 h549 hj hL (by omega) hI (by omega) (by omega) K u v w
    · exact lc_586 h586 hj hL (by omega) hI (by omega) (by omega) K u v w
    · exact lc_623 h623 hj hL (by omega) hI (by omega) (by omega) K u v w
    · exact lc_648 h648 hj hL (by omega) hI (by omega) (by omega) K u v w
    · exact lc_673 h673 hj hL (by omega) hI (by omega) (by omega) K u v w
    · exact lc_746 h746 hj hL (by omega) hI (by omega) (by omega) K u v w
    · exact lc_783 h783 hj hL (by omega) hI (by omega) (by omega) K u v w
    · exact lc_797 h797 hj hL (by omega) hI (by omega) (by omega) K u v w
    · exact lc_822 h822 hj hL (by omega) hI (by omega) (by omega) K u v w
    · exact lc_835 h835 hj hL (by omega) hI (by omega) (by omega) K u v w
end ZLOOP
