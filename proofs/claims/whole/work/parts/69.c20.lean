/-! The class: the tape that is chosen -/
theorem cn_pos (p : Nat → Bool) : ∀ n, 0 < cn p n ↔ ∃ k, k < n ∧ p k = true
  | 0 => ⟨fun h => absurd h (by simp [cn]), fun ⟨k, h, _⟩ => by omega⟩
  | n + 1 => by
    have h := cn_pos p n
    show 0 < cn p n + (if p n = true then 1 else 0) ↔ _
    by_cases q : p n = true
    · rw [if_pos q]
      exact ⟨fun _ => ⟨n, by omega, q⟩, fun _ => by omega⟩
    · rw [if_neg q, Nat.add_zero, h]
      refine ⟨fun ⟨k, h1, h2⟩ => ⟨k, by omega, h2⟩, fun ⟨k, h1, h2⟩ => ⟨k, ?_, h2⟩⟩
      rcases Nat.lt_or_ge k n with z | z
      · exact z
      · rw [show k = n by omega] at h2
        exact absurd h2 q
theorem lg_gt0 {a b : Int64} : (0 < lg_cmp a b) ↔ b < a := by
  unfold lg_cmp
  constructor
  · intro h
    split at h
    · assumption
    · split at h
      · exact absurd h (by decide)
      · exact absurd h (by decide)
  · intro h
    rw [if_pos h]
    decide
theorem scr100 {a : Int32} {n : Nat} (hn : n < 1000000) : (0 < lg_cmp a.toInt64 ((nI n).toInt64 + 100)) ↔ nI n + 100 < a := by
  rw [lg_gt0, show (nI n).toInt64 + 100 = (nI n + 100).toInt64 by
    rw [show nI n + (100 : Int32) = nI (n + 100) by rw [show (100 : Int32) = nI 100 from rfl, nI_add], nI_l (by omega), nI_l (by omega), ← lN_add]
    rfl]
  rw [Int64.lt_iff_toInt_lt, Int32.lt_iff_toInt_lt, Int32.toInt_toInt64, Int32.toInt_toInt64]
section ZC20
variable {l : Launch} {D : DD} {d : Nat} {c : HP} {M N : MD} {Q : List Value → HP → Prop}
theorem sp_chosenFor (hc : SKF c) {nT nR nA s nw : Nat} (hd : SKD c nT nR nA) (hT2 : nT ≤ 12) (hA2 : nA ≤ 150) (hA : CA c M nA) (hT : CTp c M nT) (hW : CW c M nT nA) (hG : GA M nT nA) (hh : ∀ t, t < nT → ∃ h, h < 1000 ∧ M.1 20 t = nI h) (hs : s < 1000) (h10 : mI c 6 10 0 = M.1 7 9) (h11 : mI c 6 11 0 = M.1 7 10) (h12 : mI c 6 12 0 = M.1 7 11) (hth : -1000 ≤ M.1 7 10) (hnw : M.1 7 9 = nI nw) (hnw2 : nw < 1000000) (hm : ∀ j k, j ≤ k → k < nA → M.1 7 9 - M.1 29 k ≤ M.1 7 9 - M.1 29 j) (H : ∀ r, ChR M (nI s) nA r → Q [.int r] (pm c N)) : K_X6_chosenFor l D (d + 4) [.ref (ob 6 0), .int (nI s)] (pm c N) Q := by
  refine m_X6_chosenFor (lsA := [.ref (ob 6 0), .int (nI s), jk]) rfl (Nat.le_of_ble_eq_true rfl) ?_
  intro X h0 h25 h44 h45
  obtain ⟨w14, w15, wt⟩ := hW
  have hc1 := cn_le (fun k => decide (M.1 30 k = 0 ∧ ¬ M.1 25 k = 3)) nA
  have hc2 := cn_le (fun k => decide (M.1 30 k = 0 ∧ M.1 25 k = 3)) nA
  have le0 : ∀ n : Nat, n ≤ 150 → ((nI n ≤ (0 : Int32)) = (n = 0)) := fun n hn => by
    rw [show (0 : Int32) = nI 0 from rfl, nI_le_iff]
    exact propext ⟨fun z => by omega, fun z => by omega⟩
  have eq0 : ∀ n : Nat, n ≤ 150 → ((nI n = (0 : Int32)) = (n = 0)) := fun n hn => by rw [show (0 : Int32) = nI 0 from rfl, nI_eq_iff]
  have tT : ∀ k, k < nA → tpN M k < nT ∧ M.1 26 k = nI (tpN M k) := by
    intro k hk
    obtain ⟨t, p, g1, g2, -⟩ := hG k hk
    have ht : t < 12 := by omega
    have e : tpN M k = t := by unfold tpN; rw [g2, ncl ht]
    rw [e]
    exact ⟨g1, g2⟩
  have k45 : ∀ r ls, ChR M (nI s) nA r → X 45 ls [.int r] (pm c N) 0 0 := by
    intro r ls h
    apply h45
    simp only [B_X6_chosenFor_45, o_iret, cats_nil, cats_cons, rf_s, rf_n, isR_r, isR_n, isR_rf, cat_i, cat_l, cat_r, cat_n, cat_rf, unl_i, unl_l, unl_r, unl_n, unl_j, unl_rf, orf_r, orf_n, orf_rf, rf_null, mA_pm, mL_pm, mP_pm, List.length_cons, List.length_nil, List.cons_append, List.nil_append, Nat.reduceAdd, Nat.reduceLeDiff, Nat.reduceLT, Nat.reduceEqDiff, Nat.zero_add, Nat.add_zero, Nat.le_refl, Nat.zero_le, true_and, and_true, true_or, or_true, false_or, or_false, reduceIte]
    exact H r h
  have call_w : ∀ k, k < nA → callP M k → wcan M nA (tpN M k) := fun k hk q => by
    refine ⟨q.2.2, (cn_pos _ _).mpr ⟨k, hk, ?_⟩⟩
    unfold wcl
    exact decide_eq_true ⟨(tT k hk).2, q.1, q.2.1⟩
  have k25 : (∀ k, k < nA → ¬ dueP M k) → (∀ i, topP M (nI s) nA nA i → worF M (tpN M i) (nI s) nA < M.1 7 10) → X 25 [.ref (ob 6 0), .int (nI s), .int (-1)] [] (pm c N) 0 0 := by
    intro q1 q2
    have fin : ∀ r, ((∃ i, fstP M nA i ∧ scrOk M nA i ∧ r = M.1 26 i) ∨ ((∀ i, fstP M nA i → ¬ scrOk M nA i) ∧ r = -1)) → ChR M (nI s) nA r := fun r h => Or.inr ⟨q1, Or.inr ⟨q2, h⟩⟩
    apply h25
    simp only [B_X6_chosenFor_25, o_il, o_ic, o_ic2, o_al, o_gf, o_if, nth_2, nth_0, opV_0, mV_6_15, al_6, cI_6, hc.a6, ix_6, cats_nil, cats_cons, rf_s, rf_n, isR_r, isR_n, isR_rf, cat_i, cat_l, cat_r, cat_n, cat_rf, unl_i, unl_l, unl_r, unl_n, unl_j, unl_rf, orf_r, orf_n, orf_rf, rf_null, mA_pm, mL_pm, mP_pm, List.length_cons, List.length_nil, List.cons_append, List.nil_append, Nat.reduceAdd, Nat.reduceLeDiff, Nat.reduceLT, Nat.reduceEqDiff, Nat.zero_add, Nat.add_zero, Nat.le_refl, Nat.zero_le, true_and, and_true, true_or, or_true, false_or, or_false, reduceIte, w15, le0 _ (Nat.le_trans hc2 hA2)]
    refine ⟨fun _ => ⟨fun z => ?_, fun z => ?_⟩, fun z => by first | exact absurd rfl z | exact absurd trivial z⟩
    · apply h44
      simp only [B_X6_chosenFor_44, o_il, nth_2, cats_nil, cats_cons, rf_s, rf_n, isR_r, isR_n, isR_rf, cat_i, cat_l, cat_r, cat_n, cat_rf, unl_i, unl_l, unl_r, unl_n, unl_j, unl_rf, orf_r, orf_n, orf_rf, rf_null, mA_pm, mL_pm, mP_pm, List.length_cons, List.length_nil, List.cons_append, List.nil_append, Nat.reduceAdd, Nat.reduceLeDiff, Nat.reduceLT, Nat.reduceEqDiff, Nat.zero_add, Nat.add_zero, Nat.le_refl, Nat.zero_le, true_and, and_true, true_or, or_true, false_or, or_false, reduceIte]
      refine k45 _ _ (fin (-1) (Or.inr ⟨fun i hi => ?_, rfl⟩))
      have : 0 < cn (fun k => decide (M.1 30 k = 0 ∧ M.1 25 k = 3)) nA := (cn_pos _ _).mpr ⟨i, hi.1, decide_eq_true ⟨hi.2.1.1, hi.2.1.2.1⟩⟩
      omega
    · refine sp_scrubTape hc hd hT2 hA2 hA hT hG h10 (fun r hr => ?_)
      simp only [o_il, o_ic, o_ic2, o_al, o_gf, o_if, nth_2, nth_0, opV_0, mV_6_15, al_6, cI_6, hc.a6, ix_6, cats_nil, cats_cons, rf_s, rf_n, isR_r, isR_n, isR_rf, cat_i, cat_l, cat_r, cat_n, cat_rf, unl_i, unl_l, unl_r, unl_n, unl_j, unl_rf, orf_r, orf_n, orf_rf, rf_null, mA_pm, mL_pm, mP_pm, List.length_cons, List.length_nil, List.cons_append, List.nil_append, Nat.reduceAdd, Nat.reduceLeDiff, Nat.reduceLT, Nat.reduceEqDiff, Nat.zero_add, Nat.add_zero, Nat.le_refl, Nat.zero_le, true_and, and_true, true_or, or_true, false_or, or_false, reduceIte]
      refine k45 _ _ (fin r ?_)
      have e : ∀ i, (mI c 6 14 0 = 0 ∨ ¬ M.1 7 9 + 100 < M.1 27 i) ↔ scrOk M nA i := by
        intro i
        unfold scrOk
        rw [hnw, scr100 hnw2, w14]
        refine or_congr ?_ Iff.rfl
        rw [eq0 _ (Nat.le_trans hc1 hA2)]
        constructor
        · intro h j hj h30
          refine Decidable.byContradiction fun z => ?_
          have : 0 < cn (fun k => decide (M.1 30 k = 0 ∧ ¬ M.1 25 k = 3)) nA := (cn_pos _ _).mpr ⟨j, hj, decide_eq_true ⟨h30, z⟩⟩
          omega
        · intro h
          rcases Nat.eq_zero_or_pos (cn (fun k => decide (M.1 30 k = 0 ∧ ¬ M.1 25 k = 3)) nA) with z | z
          · exact z
          · obtain ⟨j, j1, j2⟩ := (cn_pos _ _).mp z
            have j3 := of_decide_eq_true j2
            exact absurd (h j j1 j3.1) j3.2
      rcases hr with ⟨i, r1, r2, r3⟩ | ⟨r1, r2⟩
      · exact Or.inl ⟨i, r1, (e i).mp r2, r3⟩
      · exact Or.inr ⟨fun i hi z => r1 i hi ((e i).mpr z), r2⟩
  have k25y : ∀ t, t < nT → ChR M (nI s) nA (nI t) → X 25 [.ref (ob 6 0), .int (nI s), .int (nI t)] [] (pm c N) 0 0 := by
    intro t ht h
    apply h25
    simp only [B_X6_chosenFor_25, o_il, o_ic, o_ic2, o_al, o_gf, o_if, nth_2, nth_0, opV_0, mV_6_15, al_6, cI_6, hc.a6, ix_6, cats_nil, cats_cons, rf_s, rf_n, isR_r, isR_n, isR_rf, cat_i, cat_l, cat_r, cat_n, cat_rf, unl_i, unl_l, unl_r, unl_n, unl_j, unl_rf, orf_r, orf_n, orf_rf, rf_null, mA_pm, mL_pm, mP_pm, List.length_cons, List.length_nil, List.cons_append, List.nil_append, Nat.reduceAdd, Nat.reduceLeDiff, Nat.reduceLT, Nat.reduceEqDiff, Nat.zero_add, Nat.add_zero, Nat.le_refl, Nat.zero_le, true_and, and_true, true_or, or_true, false_or, or_false, reduceIte]
    refine ⟨fun z => absurd z (nI_m1 (by omega)), fun _ => ?_⟩
    apply h44
    simp only [B_X6_chosenFor_44, o_il, nth_2, cats_nil, cats_cons, rf_s, rf_n, isR_r, isR_n, isR_rf, cat_i, cat_l, cat_r, cat_n, cat_rf, unl_i, unl_l, unl_r, unl_n, unl_j, unl_rf, orf_r, orf_n, orf_rf, rf_null, mA_pm, mL_pm, mP_pm, List.length_cons, List.length_nil, List.cons_append, List.nil_append, Nat.reduceAdd, Nat.reduceLeDiff, Nat.reduceLT, Nat.reduceEqDiff, Nat.zero_add, Nat.add_zero, Nat.le_refl, Nat.zero_le, true_and, and_true, true_or, or_true, false_or, or_false, reduceIte]
    exact k45 _ _ h
  apply h0
  simp only [B_X6_chosenFor_0, o_ic, o_is, o_al, o_gf, o_if, o_il, o_ic2, lset_2, nth_0, nth_2, nth_1, opV_0, opV_1, mV_6_14, al_6, cI_6, hc.a6, ix_6, cats_nil, cats_cons, rf_s, rf_n, isR_r, isR_n, isR_rf, cat_i, cat_l, cat_r, cat_n, cat_rf, unl_i, unl_l, unl_r, unl_n, unl_j, unl_rf, orf_r, orf_n, orf_rf, rf_null, mA_pm, mL_pm, mP_pm, List.length_cons, List.length_nil, List.cons_append, List.nil_append, Nat.reduceAdd, Nat.reduceLeDiff, Nat.reduceLT, Nat.reduceEqDiff, Nat.zero_add, Nat.add_zero, Nat.le_refl, Nat.zero_le, true_and, and_true, true_or, or_true, false_or, or_false, reduceIte, w14, le0 _ (Nat.le_trans hc1 hA2)]
  refine ⟨fun z => ?_, fun z => ?_⟩
  · have hno : ∀ k, k < nA → ¬ callP M k := fun k hk q => by
      have : 0 < cn (fun k => decide (M.1 30 k = 0 ∧ ¬ M.1 25 k = 3)) nA := (cn_pos _ _).mpr ⟨k, hk, decide_eq_true ⟨q.1, q.2.1⟩⟩
      omega
    exact k25 (fun k hk q => hno k hk q.1) (fun i hi => absurd hi.2.1 (hno i hi.1))
  · refine sp_overdueTape hc hd hT2 hA2 hA hT hG h10 h12 hm (fun r hr => ?_)
    simp only [o_ic, o_is, o_al, o_gf, o_if, o_il, o_ic2, lset_2, nth_0, nth_2, nth_1, opV_0, opV_1, mV_6_14, al_6, cI_6, hc.a6, ix_6, cats_nil, cats_cons, rf_s, rf_n, isR_r, isR_n, isR_rf, cat_i, cat_l, cat_r, cat_n, cat_rf, unl_i, unl_l, unl_r, unl_n, unl_j, unl_rf, orf_r, orf_n, orf_rf, rf_null, mA_pm, mL_pm, mP_pm, List.length_cons, List.length_nil, List.cons_append, List.nil_append, Nat.reduceAdd, Nat.reduceLeDiff, Nat.reduceLT, Nat.reduceEqDiff, Nat.zero_add, Nat.add_zero, Nat.le_refl, Nat.zero_le, true_and, and_true, true_or, or_true, false_or, or_false, reduceIte]
    rcases hr with ⟨k, k1, k2, k3, rfl⟩ | ⟨k1, rfl⟩
    · rw [(tT k k1).2]
      refine ⟨fun z => absurd z (nI_m1 (by have := (tT k k1).1; omega)), fun _ => k25y _ (tT k k1).1 (Or.inl ⟨k, k1, k2, k3, (tT k k1).2.symm⟩)⟩
    · refine ⟨fun _ => ?_, fun z => by first | exact absurd rfl z | exact absurd trivial z⟩
      refine sp_worthiestTape hc hd hT2 hA2 hT ⟨w14, w15, wt⟩ hh hs h10 h11 hth (fun r hr => ?_)
      simp only [o_ic, o_is, o_al, o_gf, o_if, o_il, o_ic2, lset_2, nth_0, nth_2, nth_1, opV_0, opV_1, mV_6_14, al_6, cI_6, hc.a6, ix_6, cats_nil, cats_cons, rf_s, rf_n, isR_r, isR_n, isR_rf, cat_i, cat_l, cat_r, cat_n, cat_rf, unl_i, unl_l, unl_r, unl_n, unl_j, unl_rf, orf_r, orf_n, orf_rf, rf_null, mA_pm, mL_pm, mP_pm, List.length_cons, List.length_nil, List.cons_append, List.nil_append, Nat.reduceAdd, Nat.reduceLeDiff, Nat.reduceLT, Nat.reduceEqDiff, Nat.zero_add, Nat.add_zero, Nat.le_refl, Nat.zero_le, true_and, and_true, true_or, or_true, false_or, or_false, reduceIte]
      rcases hr with ⟨u, u1, u2, u3, u4, rfl⟩ | ⟨u1, rfl⟩
      · refine k25y u u1 (Or.inr ⟨k1, Or.inl ?_⟩)
        obtain ⟨i, i1, i2⟩ := (cn_pos _ _).mp u2.2
        have i3 := of_decide_eq_true i2
        have e : tpN M i = u := by
          have := (tT i i1).2
          rw [i3.1, nI_eq_iff (by omega) (by have := (tT i i1).1; omega)] at this
          exact this.symm
        refine ⟨i, ⟨i1, ⟨i3.2.1, i3.2.2, by rw [e]; exact u2.1⟩, fun j hj hj2 => ?_⟩, by rw [e]; exact u3, i3.1.symm⟩
        rw [e]
        exact u4 _ (tT j hj).1 (call_w j hj hj2)
      · exact k25 k1 (fun i hi => u1 _ (tT i hi.1).1 (call_w i hi.1 hi.2.1))
end ZC20
