/-! The class: a reader works -/
theorem sl_off {f g : Nat → Int64} {a b : Nat} : ∀ {n : Nat}, (∀ j, j < n → f (a + j) = g (b + j)) → sl f a n = sl g b n
  | 0, _ => rfl
  | n + 1, h => by
    show sl f a n + f (a + n) = sl g b n + g (b + n)
    rw [sl_off (fun j hj => h j (by omega)), h n (by omega)]
/-- the clock and the asks' ticks -/
def TMI (M : MD) (nA nw : Nat) : Prop := M.1 7 9 = nI nw ∧ nw < 1000000 ∧ (∀ k, k < nA → ∃ a, a ≤ nw ∧ M.1 29 k = nI a) ∧ ∀ j k, j ≤ k → k < nA → (M.1 29 j).toNatClampNeg ≤ (M.1 29 k).toNatClampNeg
section ZC32
variable {l : Launch} {D : DD} {d : Nat} {c : HP} {M N : MD} {Q : List Value → HP → Prop}
theorem sp_workIn_n (h : HP) (H : Q [.int 0] h) : K_X6_workIn l D (d + 4) [.ref (ob 6 0), .null] h Q := by
  refine m_X6_workIn (lsA := [.ref (ob 6 0), .null, jk, jk]) rfl (Nat.le_of_ble_eq_true rfl) ?_
  intro X h0 h12 h14 h48 h49 h58 h65 h103 h157
  apply h0
  simp only [B_X6_workIn_0, o_al, o_ifn, o_gf, o_ic, o_ic2, nth_1, mV_3_2, al_3, cI_3, ix_3, cats_nil, cats_cons, rf_s, rf_n, isR_r, isR_n, isR_rf, cat_i, cat_l, cat_r, cat_n, cat_rf, unl_i, unl_l, unl_r, unl_n, unl_j, unl_rf, orf_r, orf_n, orf_rf, rf_null, mA_pm, mL_pm, mP_pm, List.length_cons, List.length_nil, List.cons_append, List.nil_append, Nat.reduceAdd, Nat.reduceLeDiff, Nat.reduceLT, Nat.reduceEqDiff, Nat.zero_add, Nat.add_zero, Nat.le_refl, Nat.zero_le, true_and, and_true, true_or, or_true, false_or, or_false, reduceIte]
  refine ⟨fun _ => ?_, fun z => by first | exact absurd rfl z | exact absurd trivial z⟩
  apply h12
  simp only [B_X6_workIn_12, o_ic, o_iret, cats_nil, cats_cons, rf_s, rf_n, isR_r, isR_n, isR_rf, cat_i, cat_l, cat_r, cat_n, cat_rf, unl_i, unl_l, unl_r, unl_n, unl_j, unl_rf, orf_r, orf_n, orf_rf, rf_null, mA_pm, mL_pm, mP_pm, List.length_cons, List.length_nil, List.cons_append, List.nil_append, Nat.reduceAdd, Nat.reduceLeDiff, Nat.reduceLT, Nat.reduceEqDiff, Nat.zero_add, Nat.add_zero, Nat.le_refl, Nat.zero_le, true_and, and_true, true_or, or_true, false_or, or_false, reduceIte]
  exact H
set_option maxHeartbeats 1000000 in
theorem sp_endAsk2 (hc : SKF c) {nT nA k a t n : Nat} {y : Int32} (haa : mA c 1 a = true) (hat : mA c 5 t = true) (ht : t < nT) (ha : a < nA) (a1 : CA c M nA) (a2 : CTp c M nT) (b1 : CRw c M nT) (a6 : mI c 6 10 0 = M.1 7 9) (gA : GA M nT nA) (h26 : M.1 26 a = nI t) (hT2 : nT ≤ 12)
    (H : ∀ c2, FRJ (wEa a k) c c2 → mI c2 1 7 a = (if M.1 21 t = 4 then 3 else 2) → mI c2 1 8 a = M.1 7 9 → mJ c2 1 9 a = (endM M k a t n).2 92 a → (∀ j, j ≠ a → (endM M k a t n).2 92 j = M.2 92 j) → CRw c2 (endM M k a t n) nT → mI c2 6 16 0 = mI c 6 16 0 + (M.1 7 9 - M.1 29 a) → (mI c2 6 17 0 = if mI c 6 17 0 < M.1 7 9 - M.1 29 a then M.1 7 9 - M.1 29 a else mI c 6 17 0) → Q [] (pm c2 N)) : K_X6_endAsk l D (d + 3) [.ref (ob 6 0), .ref (ob 1 a), .ref (ob 5 t)] (pm (wI c 3 6 k y) N) Q := by
  obtain ⟨c0, c1, c2, c3, c4, c5, c6, c7, c8, c9⟩ := a1 a ha
  obtain ⟨t1, t2, -⟩ := a2 t ht
  obtain ⟨t', p, b1', b2', b3', b4', b5', b6', b7', b8'⟩ := gA a ha
  have htt : t' = t := by
    rw [h26, nI_eq_iff] at b2'
    exact b2'.symm
  subst htt
  have e21 : ∀ s, (endM M k a t' n).1 21 s = M.1 21 s := fun s => endM_ne (by omega) s
  have e22 : ∀ s, (endM M k a t' n).1 22 s = M.1 22 s := fun s => endM_ne (by omega) s
  refine sp_endAsk (c := wI c 3 6 k y) hc haa hat ?_
  rcases b1 t' ht with ⟨q1, q2⟩ | ⟨q1, q2, p', q3, q4, q5, q6⟩
  · refine Or.inl ⟨q2, H _ ?_ ?_ ?_ ?_ ?_ ?_ ?_ ?_⟩
    · unfold ageC eaA
      exact ((((((FRJ.rf _ c).w _ (by unfold wEa; omega)).w _ (by unfold wEa; omega)).w _ (by unfold wEa; omega)).v _ (by unfold wEa; omega)).w _ (by unfold wEa; omega)).w _ (by unfold wEa; omega)
    · unfold ageC eaA
      simp only [mI_wI, mJ_wI, mP_wI, mL_wI, mA_wI, mI_wJ, mJ_wJ, mP_wJ, mL_wJ, mA_wJ, uI_1, uI_2, uJ_1, uJ_2, Nat.reduceEqDiff, false_and, and_false, true_and, and_true, reduceIte, q1]
    · unfold ageC eaA
      simp only [mI_wI, mJ_wI, mP_wI, mL_wI, mA_wI, mI_wJ, mJ_wJ, mP_wJ, mL_wJ, mA_wJ, uI_1, uI_2, uJ_1, uJ_2, Nat.reduceEqDiff, false_and, and_false, true_and, and_true, reduceIte]
      exact a6
    · unfold ageC eaA
      simp only [mI_wI, mJ_wI, mP_wI, mL_wI, mA_wI, mI_wJ, mJ_wJ, mP_wJ, mL_wJ, mA_wJ, uI_1, uI_2, uJ_1, uJ_2, Nat.reduceEqDiff, false_and, and_false, true_and, and_true, reduceIte]
      rw [endM_2]
      unfold endR
      rw [if_pos q1]
      simp only [mI_wI, mJ_wI, mP_wI, mL_wI, mA_wI, mI_wJ, mJ_wJ, mP_wJ, mL_wJ, mA_wJ, uI_1, uI_2, uJ_1, uJ_2, Nat.reduceEqDiff, false_and, and_false, true_and, and_true, reduceIte]
    · intro j hj
      rw [endM_2]
      unfold endR
      rw [if_pos q1]
      simp only [mI_wI, mJ_wI, mP_wI, mL_wI, mA_wI, mI_wJ, mJ_wJ, mP_wJ, mL_wJ, mA_wJ, uI_1, uI_2, uJ_1, uJ_2, Nat.reduceEqDiff, false_and, and_false, true_and, and_true, reduceIte, hj]
      rfl
    · refine b1.fr (fun j => rfl) (fun j => rfl) (fun i j => ?_) e21 e22 (fun i => ?_)
      · unfold ageC eaA
        simp only [mI_wI, mJ_wI, mP_wI, mL_wI, mA_wI, mI_wJ, mJ_wJ, mP_wJ, mL_wJ, mA_wJ, uI_1, uI_2, uJ_1, uJ_2, Nat.reduceEqDiff, false_and, and_false, true_and, and_true, reduceIte]
      · rw [endM_2]
        unfold endR
        rw [if_pos q1]
        simp only [mI_wI, mJ_wI, mP_wI, mL_wI, mA_wI, mI_wJ, mJ_wJ, mP_wJ, mL_wJ, mA_wJ, uI_1, uI_2, uJ_1, uJ_2, Nat.reduceEqDiff, false_and, and_false, true_and, and_true, reduceIte]
        rfl
    · unfold ageC eaA
      simp only [mI_wI, mJ_wI, mP_wI, mL_wI, mA_wI, mI_wJ, mJ_wJ, mP_wJ, mL_wJ, mA_wJ, uI_1, uI_2, uJ_1, uJ_2, Nat.reduceEqDiff, false_and, and_false, true_and, and_true, reduceIte]
      rw [a6, c4]
    · unfold ageC eaA
      simp only [mI_wI, mJ_wI, mP_wI, mL_wI, mA_wI, mI_wJ, mJ_wJ, mP_wJ, mL_wJ, mA_wJ, uI_1, uI_2, uJ_1, uJ_2, Nat.reduceEqDiff, false_and, and_false, true_and, and_true, reduceIte]
      rw [a6, c4]
  · refine Or.inr ⟨p', q2, q5, q3, ?_⟩
    have hpp : p' = p := by
      rw [q4, nI_eq_iff] at b6'
      exact b6'
    subst hpp
    by_cases hk2 : M.1 25 a = 2
    · refine Or.inl ⟨frN M a, c0.trans hk2, ?_, by omega, H _ ?_ ?_ ?_ ?_ ?_ ?_ ?_ ?_⟩
      · refine c2.trans ?_
        rw [← b3']
        unfold fromF
        rw [if_neg (by rw [hk2]; decide)]
      · unfold ageC eaA
        exact (((((((FRJ.rf _ c).w _ (by unfold wEa; omega)).w _ (by unfold wEa; omega)).w _ (by unfold wEa; omega)).v _ (by unfold wEa; omega)).v _ (by unfold wEa; omega)).w _ (by unfold wEa; omega)).w _ (by unfold wEa; omega)
      · unfold ageC eaA
        simp only [mI_wI, mJ_wI, mP_wI, mL_wI, mA_wI, mI_wJ, mJ_wJ, mP_wJ, mL_wJ, mA_wJ, uI_1, uI_2, uJ_1, uJ_2, Nat.reduceEqDiff, false_and, and_false, true_and, and_true, reduceIte, q1]
      · unfold ageC eaA
        simp only [mI_wI, mJ_wI, mP_wI, mL_wI, mA_wI, mI_wJ, mJ_wJ, mP_wJ, mL_wJ, mA_wJ, uI_1, uI_2, uJ_1, uJ_2, Nat.reduceEqDiff, false_and, and_false, true_and, and_true, reduceIte]
        exact a6
      · unfold ageC eaA
        simp only [mI_wI, mJ_wI, mP_wI, mL_wI, mA_wI, mI_wJ, mJ_wJ, mP_wJ, mL_wJ, mA_wJ, uI_1, uI_2, uJ_1, uJ_2, Nat.reduceEqDiff, false_and, and_false, true_and, and_true, reduceIte]
        rw [endM_2]
        unfold endR
        rw [if_neg q1, if_pos hk2]
        simp only [mI_wI, mJ_wI, mP_wI, mL_wI, mA_wI, mI_wJ, mJ_wJ, mP_wJ, mL_wJ, mA_wJ, uI_1, uI_2, uJ_1, uJ_2, Nat.reduceEqDiff, false_and, and_false, true_and, and_true, reduceIte]
        exact q6 _ (by omega)
      · intro j hj
        rw [endM_2]
        unfold endR
        rw [if_neg q1, if_pos hk2]
        simp only [mI_wI, mJ_wI, mP_wI, mL_wI, mA_wI, mI_wJ, mJ_wJ, mP_wJ, mL_wJ, mA_wJ, uI_1, uI_2, uJ_1, uJ_2, Nat.reduceEqDiff, false_and, and_false, true_and, and_true, reduceIte, hj]
        rfl
      · intro s hs
        rw [e21, e22]
        rcases b1 s hs with w | ⟨w1, w2, p2, w3, w4, w5, w6⟩
        · exact Or.inl w
        · refine Or.inr ⟨w1, w2, p2, w3, w4, w5, fun i hi => ?_⟩
          rw [endM_2]
          unfold endR
          rw [if_neg q1, if_pos hk2]
          unfold ageC eaA
          simp only [mI_wI, mJ_wI, mP_wI, mL_wI, mA_wI, mI_wJ, mJ_wJ, mP_wJ, mL_wJ, mA_wJ, uI_1, uI_2, uJ_1, uJ_2, Nat.reduceEqDiff, false_and, and_false, true_and, and_true, reduceIte]
          by_cases e : i = frN M a ∧ s = t'
          · rw [if_pos e, if_pos (by rw [e.1, e.2]), t2, c3]
          · rw [if_neg e, if_neg (by omega)]
            exact w6 i hi
      · unfold ageC eaA
        simp only [mI_wI, mJ_wI, mP_wI, mL_wI, mA_wI, mI_wJ, mJ_wJ, mP_wJ, mL_wJ, mA_wJ, uI_1, uI_2, uJ_1, uJ_2, Nat.reduceEqDiff, false_and, and_false, true_and, and_true, reduceIte]
        rw [a6, c4]
      · unfold ageC eaA
        simp only [mI_wI, mJ_wI, mP_wI, mL_wI, mA_wI, mI_wJ, mJ_wJ, mP_wJ, mL_wJ, mA_wJ, uI_1, uI_2, uJ_1, uJ_2, Nat.reduceEqDiff, false_and, and_false, true_and, and_true, reduceIte]
        rw [a6, c4]
    · refine Or.inr ⟨frN M a, toN M a, fun z => hk2 (c0.symm.trans z), c5.trans b3', c6.trans b4', b5', b8', H _ ?_ ?_ ?_ ?_ ?_ ?_ ?_ ?_⟩
      · unfold ageC eaA
        exact ((((((FRJ.rf _ c).w _ (by unfold wEa; omega)).w _ (by unfold wEa; omega)).w _ (by unfold wEa; omega)).v _ (by unfold wEa; omega)).w _ (by unfold wEa; omega)).w _ (by unfold wEa; omega)
      · unfold ageC eaA
        simp only [mI_wI, mJ_wI, mP_wI, mL_wI, mA_wI, mI_wJ, mJ_wJ, mP_wJ, mL_wJ, mA_wJ, uI_1, uI_2, uJ_1, uJ_2, Nat.reduceEqDiff, false_and, and_false, true_and, and_true, reduceIte, q1]
      · unfold ageC eaA
        simp only [mI_wI, mJ_wI, mP_wI, mL_wI, mA_wI, mI_wJ, mJ_wJ, mP_wJ, mL_wJ, mA_wJ, uI_1, uI_2, uJ_1, uJ_2, Nat.reduceEqDiff, false_and, and_false, true_and, and_true, reduceIte]
        exact a6
      · unfold ageC eaA
        simp only [mI_wI, mJ_wI, mP_wI, mL_wI, mA_wI, mI_wJ, mJ_wJ, mP_wJ, mL_wJ, mA_wJ, uI_1, uI_2, uJ_1, uJ_2, Nat.reduceEqDiff, false_and, and_false, true_and, and_true, reduceIte]
        rw [endM_2]
        unfold endR
        rw [if_neg q1, if_neg hk2]
        simp only [mI_wI, mJ_wI, mP_wI, mL_wI, mA_wI, mI_wJ, mJ_wJ, mP_wJ, mL_wJ, mA_wJ, uI_1, uI_2, uJ_1, uJ_2, Nat.reduceEqDiff, false_and, and_false, true_and, and_true, reduceIte]
        exact sl_off (fun j hj => by
          have := q6 (frN M a + j) (by omega)
          rw [Nat.add_assoc]
          exact this)
      · intro j hj
        rw [endM_2]
        unfold endR
        rw [if_neg q1, if_neg hk2]
        simp only [mI_wI, mJ_wI, mP_wI, mL_wI, mA_wI, mI_wJ, mJ_wJ, mP_wJ, mL_wJ, mA_wJ, uI_1, uI_2, uJ_1, uJ_2, Nat.reduceEqDiff, false_and, and_false, true_and, and_true, reduceIte, hj]
        rfl
      · refine b1.fr (fun j => rfl) (fun j => rfl) (fun i j => ?_) e21 e22 (fun i => ?_)
        · unfold ageC eaA
          simp only [mI_wI, mJ_wI, mP_wI, mL_wI, mA_wI, mI_wJ, mJ_wJ, mP_wJ, mL_wJ, mA_wJ, uI_1, uI_2, uJ_1, uJ_2, Nat.reduceEqDiff, false_and, and_false, true_and, and_true, reduceIte]
        · rw [endM_2]
          unfold endR
          rw [if_neg q1, if_neg hk2]
          simp only [mI_wI, mJ_wI, mP_wI, mL_wI, mA_wI, mI_wJ, mJ_wJ, mP_wJ, mL_wJ, mA_wJ, uI_1, uI_2, uJ_1, uJ_2, Nat.reduceEqDiff, false_and, and_false, true_and, and_true, reduceIte]
          rfl
      · unfold ageC eaA
        simp only [mI_wI, mJ_wI, mP_wI, mL_wI, mA_wI, mI_wJ, mJ_wJ, mP_wJ, mL_wJ, mA_wJ, uI_1, uI_2, uJ_1, uJ_2, Nat.reduceEqDiff, false_and, and_false, true_and, and_true, reduceIte]
        rw [a6, c4]
      · unfold ageC eaA
        simp only [mI_wI, mJ_wI, mP_wI, mL_wI, mA_wI, mI_wJ, mJ_wJ, mP_wJ, mL_wJ, mA_wJ, uI_1, uI_2, uJ_1, uJ_2, Nat.reduceEqDiff, false_and, and_false, true_and, and_true, reduceIte]
        rw [a6, c4]
set_option maxHeartbeats 1000000 in
theorem sp_workIn (hc : SKF c) {nT nR nA k nw : Nat} (hd : SKD c nT nR nA) (hT2 : nT ≤ 12) (hR2 : nR ≤ 3) (hA2 : nA ≤ 150) (hk : k < nR) (hC : CPT c M nT nR nA) (hG : GMI M nT nR nA) (hN : M.1 7 9 = nI nw) (hN2 : nw < 1000000) (H : ∀ c', FRJ wTk c c' → CPT c' (wkM M k) nT nR nA → Q [.int (wkE M k)] (pm c' N)) : K_X6_workIn l D (d + 4) [.ref (ob 6 0), .ref (ob 3 k)] (pm c N) Q := by
  refine m_X6_workIn (lsA := [.ref (ob 6 0), .ref (ob 3 k), jk, jk]) rfl (Nat.le_of_ble_eq_true rfl) ?_
  intro X h0 h12 h14 h48 h49 h58 h65 h103 h157
  obtain ⟨gS, gA, gH, gW, gR, gJ, gT, gI, gD, gSp, gU⟩ := hG
  obtain ⟨⟨a1, a2, a3, a4, a5, a6, a7, a8⟩, b1, b2, b3, b4⟩ := id hC
  obtain ⟨har, har2, har3⟩ := hd.2.2.2.2.1 k hk
  obtain ⟨r1, r2, r3, r4, r5, x, r6, r7, r8, r9⟩ := a4 k hk
  apply h0
  simp only [B_X6_workIn_0, o_al, o_ifn, o_gf, o_ic, o_ic2, nth_1, mV_3_2, al_3, cI_3, ix_3, cats_nil, cats_cons, rf_s, rf_n, isR_r, isR_n, isR_rf, cat_i, cat_l, cat_r, cat_n, cat_rf, unl_i, unl_l, unl_r, unl_n, unl_j, unl_rf, orf_r, orf_n, orf_rf, rf_null, mA_pm, mL_pm, mP_pm, List.length_cons, List.length_nil, List.cons_append, List.nil_append, Nat.reduceAdd, Nat.reduceLeDiff, Nat.reduceLT, Nat.reduceEqDiff, Nat.zero_add, Nat.add_zero, Nat.le_refl, Nat.zero_le, true_and, and_true, true_or, or_true, false_or, or_false, reduceIte, har, r2, rnn, false_imp_iff, not_false_eq_true, true_imp_iff]
  refine ⟨fun z2 => ?_, fun z2 => ?_⟩
  rotate_left
  · apply h12
    simp only [B_X6_workIn_12, o_ic, o_iret, cats_nil, cats_cons, rf_s, rf_n, isR_r, isR_n, isR_rf, cat_i, cat_l, cat_r, cat_n, cat_rf, unl_i, unl_l, unl_r, unl_n, unl_j, unl_rf, orf_r, orf_n, orf_rf, rf_null, mA_pm, mL_pm, mP_pm, List.length_cons, List.length_nil, List.cons_append, List.nil_append, Nat.reduceAdd, Nat.reduceLeDiff, Nat.reduceLT, Nat.reduceEqDiff, Nat.zero_add, Nat.add_zero, Nat.le_refl, Nat.zero_le, true_and, and_true, true_or, or_true, false_or, or_false, reduceIte]
    have := H c (FRJ.rf _ _)
    unfold wkM wkE at this
    rw [if_neg z2, if_neg z2] at this
    exact this hC
  unfold wkM wkE at H
  rw [if_pos z2, if_pos z2] at H
  obtain ⟨t, ht, h37, hrt⟩ : ∃ t, t < nT ∧ M.1 37 k = nI t ∧ rtN M k = t := by
    rcases gR k hk with ⟨-, q⟩ | ⟨q1, q2, -⟩
    · rcases q with q | q <;> rw [q] at z2 <;> exact absurd z2 (by decide)
    · exact ⟨_, q1, q2, rfl⟩
  rw [hrt] at H
  have hat := hd.2.2.2.1 t ht
  obtain ⟨t1, t2, t3, t4, t5, t6⟩ := a2 t ht
  obtain ⟨gI1, gI2, gI3⟩ := gI k hk
  obtain ⟨w1, w2, w3⟩ := gW k hk
  have e57 : nI (x + wkN M k) - nI x = nI (wkN M k) := by rw [pk_sub (by omega)]; congr 1; omega
  apply h14
  simp only [B_X6_workIn_14, o_al, o_gf, o_as, o_if, nth_0, nth_1, lset_2, opV_1, opV_0, opS_2, mV_3_3, al_3, cI_3, ix_3, mV_3_1, kd_19, ix_19, cI_19, cw_19, mV_3_4, al_6, ix_6, hc.a6, cats_nil, cats_cons, rf_s, rf_n, isR_r, isR_n, isR_rf, cat_i, cat_l, cat_r, cat_n, cat_rf, unl_i, unl_l, unl_r, unl_n, unl_j, unl_rf, orf_r, orf_n, orf_rf, rf_null, mA_pm, mL_pm, mP_pm, List.length_cons, List.length_nil, List.cons_append, List.nil_append, Nat.reduceAdd, Nat.reduceLeDiff, Nat.reduceLT, Nat.reduceEqDiff, Nat.zero_add, Nat.add_zero, Nat.le_refl, Nat.zero_le, true_and, and_true, true_or, or_true, false_or, or_false, reduceIte, har, r3, h37]
  refine sp_tapeAt hc hd hT2 _ (fun v hv => ?_)
  rcases hv with ⟨t', v1, v2, rfl⟩ | ⟨v1, -⟩
  rotate_left
  · exact absurd rfl (v1 t ht)
  rw [nI_eq_iff] at v2
  subst v2
  simp only [o_al, o_gf, o_as, o_if, nth_0, nth_1, lset_2, opV_1, opV_0, opS_2, mV_3_3, al_3, cI_3, ix_3, mV_3_1, kd_19, ix_19, cI_19, cw_19, mV_3_4, al_6, ix_6, hc.a6, cats_nil, cats_cons, rf_s, rf_n, isR_r, isR_n, isR_rf, cat_i, cat_l, cat_r, cat_n, cat_rf, unl_i, unl_l, unl_r, unl_n, unl_j, unl_rf, orf_r, orf_n, orf_rf, rf_null, mA_pm, mL_pm, mP_pm, List.length_cons, List.length_nil, List.cons_append, List.nil_append, Nat.reduceAdd, Nat.reduceLeDiff, Nat.reduceLT, Nat.reduceEqDiff, Nat.zero_add, Nat.add_zero, Nat.le_refl, Nat.zero_le, true_and, and_true, true_or, or_true, false_or, or_false, reduceIte, har]
  refine sp_workLeft har ?_
  rw [r6, r7, e57]
  simp only [o_al, o_gf, o_as, o_if, nth_0, nth_1, lset_2, opV_1, opV_0, opS_2, mV_3_3, al_3, cI_3, ix_3, mV_3_1, kd_19, ix_19, cI_19, cw_19, mV_3_4, al_6, ix_6, hc.a6, cats_nil, cats_cons, rf_s, rf_n, isR_r, isR_n, isR_rf, cat_i, cat_l, cat_r, cat_n, cat_rf, unl_i, unl_l, unl_r, unl_n, unl_j, unl_rf, orf_r, orf_n, orf_rf, rf_null, mA_pm, mL_pm, mP_pm, List.length_cons, List.length_nil, List.cons_append, List.nil_append, Nat.reduceAdd, Nat.reduceLeDiff, Nat.reduceLT, Nat.reduceEqDiff, Nat.zero_add, Nat.add_zero, Nat.le_refl, Nat.zero_le, true_and, and_true, true_or, or_true, false_or, or_false, reduceIte, har, har2, r6]
  refine ⟨fun y => ?_, fun y => ?_⟩
  · -- no asks
    have hw0 : wkN M k = 0 := by
      rw [show (0 : Int32) = nI 0 from rfl, nI_le_iff] at y
      omega
    rw [if_pos hw0, if_pos hw0] at H
    apply h48
    simp only [B_X6_workIn_48, o_null, cats_nil, cats_cons, rf_s, rf_n, isR_r, isR_n, isR_rf, cat_i, cat_l, cat_r, cat_n, cat_rf, unl_i, unl_l, unl_r, unl_n, unl_j, unl_rf, orf_r, orf_n, orf_rf, rf_null, mA_pm, mL_pm, mP_pm, List.length_cons, List.length_nil, List.cons_append, List.nil_append, Nat.reduceAdd, Nat.reduceLeDiff, Nat.reduceLT, Nat.reduceEqDiff, Nat.zero_add, Nat.add_zero, Nat.le_refl, Nat.zero_le, true_and, and_true, true_or, or_true, false_or, or_false, reduceIte]
    apply h49
    simp only [B_X6_workIn_49, o_as, o_al, o_ifn, lset_3, nth_2, nth_3, cats_nil, cats_cons, rf_s, rf_n, isR_r, isR_n, isR_rf, cat_i, cat_l, cat_r, cat_n, cat_rf, unl_i, unl_l, unl_r, unl_n, unl_j, unl_rf, orf_r, orf_n, orf_rf, rf_null, mA_pm, mL_pm, mP_pm, List.length_cons, List.length_nil, List.cons_append, List.nil_append, Nat.reduceAdd, Nat.reduceLeDiff, Nat.reduceLT, Nat.reduceEqDiff, Nat.zero_add, Nat.add_zero, Nat.le_refl, Nat.zero_le, true_and, and_true, true_or, or_true, false_or, or_false, reduceIte, rnn, false_imp_iff, not_false_eq_true, true_imp_iff]
    refine ⟨?_, fun z => absurd trivial z⟩
    apply h58
    simp only [B_X6_workIn_58, o_al, o_ic, o_pI, o_iret, nth_1, al_3, ix_3, cw_3, cats_nil, cats_cons, rf_s, rf_n, isR_r, isR_n, isR_rf, cat_i, cat_l, cat_r, cat_n, cat_rf, unl_i, unl_l, unl_r, unl_n, unl_j, unl_rf, orf_r, orf_n, orf_rf, rf_null, mA_pm, mL_pm, mP_pm, List.length_cons, List.length_nil, List.cons_append, List.nil_append, Nat.reduceAdd, Nat.reduceLeDiff, Nat.reduceLT, Nat.reduceEqDiff, Nat.zero_add, Nat.add_zero, Nat.le_refl, Nat.zero_le, true_and, and_true, true_or, or_true, false_or, or_false, reduceIte, har]
    exact H _ ((FRJ.rf wTk c).w _ (by unfold wTk; omega)) (hC.w32 k 3 (fun z => absurd z (by decide)))
  have hw0 : 0 < wkN M k := by
    rcases Nat.eq_zero_or_pos (wkN M k) with q | q
    · rw [q] at y
      exact absurd (Int32.le_refl _) y
    · exact q
  have hwn : ¬ wkN M k = 0 := by omega
  rw [if_neg hwn, if_neg hwn] at H
  obtain ⟨v1, v2⟩ := w3 0 hw0
  obtain ⟨s1, s2, -⟩ := gI3 0 hw0
  obtain ⟨a, ha⟩ : ∃ a, a = wkL M k 0 := ⟨_, rfl⟩
  rw [← ha] at v1 v2 s1 s2 H
  have e19 : mI c 19 x k = nI a := by
    have := r9 0 hw0
    rw [Nat.add_zero] at this
    rw [this]
    exact v1
  have haa := hd.2.2.2.2.2 a v2
  refine sp_at (n := 8) (by decide) rfl har3 (by omega) (by omega) ?_
  rw [e19]
  simp only [o_al, o_gf, o_as, o_if, nth_0, nth_1, lset_2, opV_1, opV_0, opS_2, mV_3_3, al_3, cI_3, ix_3, mV_3_1, kd_19, ix_19, cI_19, cw_19, mV_3_4, al_6, ix_6, hc.a6, cats_nil, cats_cons, rf_s, rf_n, isR_r, isR_n, isR_rf, cat_i, cat_l, cat_r, cat_n, cat_rf, unl_i, unl_l, unl_r, unl_n, unl_j, unl_rf, orf_r, orf_n, orf_rf, rf_null, mA_pm, mL_pm, mP_pm, List.length_cons, List.length_nil, List.cons_append, List.nil_append, Nat.reduceAdd, Nat.reduceLeDiff, Nat.reduceLT, Nat.reduceEqDiff, Nat.zero_add, Nat.add_zero, Nat.le_refl, Nat.zero_le, true_and, and_true, true_or, or_true, false_or, or_false, reduceIte]
  refine sp_askAt hc hd hA2 _ (fun v hv => ?_)
  rcases hv with ⟨t', u1, u2, rfl⟩ | ⟨u1, -⟩
  rotate_left
  · exact absurd rfl (u1 a v2)
  rw [nI_eq_iff] at u2
  subst u2
  simp only [o_al, o_gf, o_as, o_if, nth_0, nth_1, lset_2, opV_1, opV_0, opS_2, mV_3_3, al_3, cI_3, ix_3, mV_3_1, kd_19, ix_19, cI_19, cw_19, mV_3_4, al_6, ix_6, hc.a6, cats_nil, cats_cons, rf_s, rf_n, isR_r, isR_n, isR_rf, cat_i, cat_l, cat_r, cat_n, cat_rf, unl_i, unl_l, unl_r, unl_n, unl_j, unl_rf, orf_r, orf_n, orf_rf, rf_null, mA_pm, mL_pm, mP_pm, List.length_cons, List.length_nil, List.cons_append, List.nil_append, Nat.reduceAdd, Nat.reduceLeDiff, Nat.reduceLT, Nat.reduceEqDiff, Nat.zero_add, Nat.add_zero, Nat.le_refl, Nat.zero_le, true_and, and_true, true_or, or_true, false_or, or_false, reduceIte]
  apply h49
  simp only [B_X6_workIn_49, o_as, o_al, o_ifn, lset_3, nth_2, nth_3, cats_nil, cats_cons, rf_s, rf_n, isR_r, isR_n, isR_rf, cat_i, cat_l, cat_r, cat_n, cat_rf, unl_i, unl_l, unl_r, unl_n, unl_j, unl_rf, orf_r, orf_n, orf_rf, rf_null, mA_pm, mL_pm, mP_pm, List.length_cons, List.length_nil, List.cons_append, List.nil_append, Nat.reduceAdd, Nat.reduceLeDiff, Nat.reduceLT, Nat.reduceEqDiff, Nat.zero_add, Nat.add_zero, Nat.le_refl, Nat.zero_le, true_and, and_true, true_or, or_true, false_or, or_false, reduceIte, rnn, false_imp_iff, not_false_eq_true, true_imp_iff]
  obtain ⟨c0, c1, c2, c3, c4, c5, c6, c7, c8, c9⟩ := a1 a v2
  obtain ⟨t', p, b1', b2', b3', b4', b5', b6', b7', b8'⟩ := gA a v2
  have htt : t' = t := by
    rw [s1, h37, nI_eq_iff] at b2'
    exact b2'.symm
  subst htt
  obtain ⟨hh1, hh2⟩ := gH t' ht
  obtain ⟨wv, wv1, wv2⟩ := gI2 z2
  have hcost : costW M k a t' = nI (cN (frN M a) (toN M a) (hdN M t') wv) := by
    unfold costW
    rw [b3', b4', hh1, wv2]
    exact costF_N b5' (by omega) hh2 wv1
  apply h65
  simp only [B_X6_workIn_65, o_al, o_dup, o_gf, o_ic, o_ii, o_pI, o_ic2, o_iret, nth_1, nth_2, nth_3, opS_4, mV_3_6, al_3, cI_3, ix_3, mV_5_4, al_5, cI_5, ix_5, mV_3_7, mV_1_5, al_1, cI_1, ix_1, mV_1_6, cw_3, cats_nil, cats_cons, rf_s, rf_n, isR_r, isR_n, isR_rf, cat_i, cat_l, cat_r, cat_n, cat_rf, unl_i, unl_l, unl_r, unl_n, unl_j, unl_rf, orf_r, orf_n, orf_rf, rf_null, mA_pm, mL_pm, mP_pm, List.length_cons, List.length_nil, List.cons_append, List.nil_append, Nat.reduceAdd, Nat.reduceLeDiff, Nat.reduceLT, Nat.reduceEqDiff, Nat.zero_add, Nat.add_zero, Nat.le_refl, Nat.zero_le, true_and, and_true, true_or, or_true, false_or, or_false, reduceIte, har, hat, haa, mA_wI, mI_wI, Nat.reduceEqDiff, false_and, and_false, r4, t4, r5 z2, c5, c6, hh1, wv2, b3', b4']
  refine sp_costOf6 _ b5' (by omega) hh2 wv1 ?_
  rw [← hcost]
  simp only [o_al, o_dup, o_gf, o_ic, o_ii, o_pI, o_ic2, o_iret, nth_1, nth_2, nth_3, opS_4, mV_3_6, al_3, cI_3, ix_3, mV_5_4, al_5, cI_5, ix_5, mV_3_7, mV_1_5, al_1, cI_1, ix_1, mV_1_6, cw_3, cats_nil, cats_cons, rf_s, rf_n, isR_r, isR_n, isR_rf, cat_i, cat_l, cat_r, cat_n, cat_rf, unl_i, unl_l, unl_r, unl_n, unl_j, unl_rf, orf_r, orf_n, orf_rf, rf_null, mA_pm, mL_pm, mP_pm, List.length_cons, List.length_nil, List.cons_append, List.nil_append, Nat.reduceAdd, Nat.reduceLeDiff, Nat.reduceLT, Nat.reduceEqDiff, Nat.zero_add, Nat.add_zero, Nat.le_refl, Nat.zero_le, true_and, and_true, true_or, or_true, false_or, or_false, reduceIte]
  refine ⟨fun q => ?_, fun q => ?_⟩
  rotate_left
  · rw [if_neg q, if_neg q] at H
    exact H _ ((FRJ.rf wTk c).w _ (by unfold wTk; omega)) (hC.w36 k _)
  rw [if_pos q, if_pos q] at H
  obtain ⟨n, hn⟩ : ∃ n, wkN M k = n + 1 := ⟨wkN M k - 1, by omega⟩
  rw [show wkN M k - 1 = n by omega] at H
  have h31 : M.1 31 a = -1 := gD a v2 (Or.inr s2)
  -- behind the ask's end
  have fin : ∀ c2, FRJ (wEa a k) c c2 → mI c2 1 7 a = (if M.1 21 t' = 4 then 3 else 2) → mI c2 1 8 a = M.1 7 9 → mJ c2 1 9 a = (endM M k a t' n).2 92 a → (∀ j, j ≠ a → (endM M k a t' n).2 92 j = M.2 92 j) → CRw c2 (endM M k a t' n) nT → mI c2 6 16 0 = mI c 6 16 0 + (M.1 7 9 - M.1 29 a) → (mI c2 6 17 0 = if mI c 6 17 0 < M.1 7 9 - M.1 29 a then M.1 7 9 - M.1 29 a else mI c 6 17 0) → Q [.int 1] (pm (enC c2 k t' (wayF (fromF M a) (toF M a) (M.1 23 t') (M.1 41 k)) (toF M a) n) N) := by
    intro c2 hF q7 q8 q9 qo qR q16 q17
    refine H _ ?_ (hC.end_ hk v2 ht hn s2 h31 hN hN2 hF q7 q8 q9 qo qR q16 q17)
    exact (hF.mo (fun b i j w => by unfold wEa at w; unfold wTk; omega)).tr ((en_fr c2 k t' _ _ n).j.mo (fun b i j w => by unfold wEn at w; unfold wTk; omega))
  have hF1 : FRJ wTk c (wI c 3 6 k (M.1 40 k + 1)) := (FRJ.rf wTk c).w _ (by unfold wTk; omega)
  have hc1 := hF1.sk hc
  apply h103
  simp only [B_X6_workIn_103, o_al, o_gf, o_pI, o_ic, o_if, nth_0, nth_3, nth_2, nth_1, opV_2, opS_4, opV_1, opV_0, mV_5_4, al_5, cI_5, ix_5, mV_3_7, al_3, cI_3, ix_3, mV_1_5, al_1, cI_1, ix_1, mV_1_6, al_6, ix_6, hc.a6, cw_5, cw_6, cw_3, cats_nil, cats_cons, rf_s, rf_n, isR_r, isR_n, isR_rf, cat_i, cat_l, cat_r, cat_n, cat_rf, unl_i, unl_l, unl_r, unl_n, unl_j, unl_rf, orf_r, orf_n, orf_rf, rf_null, mA_pm, mL_pm, mP_pm, List.length_cons, List.length_nil, List.cons_append, List.nil_append, Nat.reduceAdd, Nat.reduceLeDiff, Nat.reduceLT, Nat.reduceEqDiff, Nat.zero_add, Nat.add_zero, Nat.le_refl, Nat.zero_le, true_and, and_true, true_or, or_true, false_or, or_false, reduceIte, hc1.a6]
  refine sp_endAsk2 (M := M) (k := k) (n := n) hc haa hat ht v2 hC.1.1 hC.1.2.1 hC.2.1 hC.1.2.2.2.2.2.1 gA (s1.trans h37) hT2 (fun c2 hF q7 q8 q9 qo qR q16 q17 => ?_)
  have fin2 := fin c2 hF q7 q8 q9 qo qR q16 q17
  have f3 : ∀ i, i ≠ 6 → mI c2 3 i k = mI c 3 i k := fun i hi => hF.I (fun z => by unfold wEa at z; omega)
  have f5 : ∀ i, mI c2 5 i t' = mI c 5 i t' := fun i => hF.I (fun z => by unfold wEa at z; omega)
  have f1 : ∀ i, i < 7 → mI c2 1 i a = mI c 1 i a := fun i hi => hF.I (fun z => by unfold wEa at z; omega)
  have h36 : mA c2 3 k = true := by rw [hF.A]; exact har
  have h56 : mA c2 5 t' = true := by rw [hF.A]; exact hat
  have h16 : mA c2 1 a = true := by rw [hF.A]; exact haa
  have hc2 := hF.sk hc
  simp only [o_al, o_gf, o_pI, o_ic, o_if, nth_0, nth_3, nth_2, nth_1, opV_2, opS_4, opV_1, opV_0, mV_5_4, al_5, cI_5, ix_5, mV_3_7, al_3, cI_3, ix_3, mV_1_5, al_1, cI_1, ix_1, mV_1_6, al_6, ix_6, hc.a6, cw_5, cw_6, cw_3, cats_nil, cats_cons, rf_s, rf_n, isR_r, isR_n, isR_rf, cat_i, cat_l, cat_r, cat_n, cat_rf, unl_i, unl_l, unl_r, unl_n, unl_j, unl_rf, orf_r, orf_n, orf_rf, rf_null, mA_pm, mL_pm, mP_pm, List.length_cons, List.length_nil, List.cons_append, List.nil_append, Nat.reduceAdd, Nat.reduceLeDiff, Nat.reduceLT, Nat.reduceEqDiff, Nat.zero_add, Nat.add_zero, Nat.le_refl, Nat.zero_le, true_and, and_true, true_or, or_true, false_or, or_false, reduceIte, h36, h56, h16, f5 4, t4, f3 7 (by omega), r5 z2, f1 5 (by omega), f1 6 (by omega), c5, c6]
  refine sp_wayBehind _ _ _ _ _ ?_
  simp only [o_al, o_gf, o_pI, o_ic, o_if, nth_0, nth_3, nth_2, nth_1, opV_2, opS_4, opV_1, opV_0, mV_5_4, al_5, cI_5, ix_5, mV_3_7, al_3, cI_3, ix_3, mV_1_5, al_1, cI_1, ix_1, mV_1_6, al_6, ix_6, hc.a6, cw_5, cw_6, cw_3, cats_nil, cats_cons, rf_s, rf_n, isR_r, isR_n, isR_rf, cat_i, cat_l, cat_r, cat_n, cat_rf, unl_i, unl_l, unl_r, unl_n, unl_j, unl_rf, orf_r, orf_n, orf_rf, rf_null, mA_pm, mL_pm, mP_pm, List.length_cons, List.length_nil, List.cons_append, List.nil_append, Nat.reduceAdd, Nat.reduceLeDiff, Nat.reduceLT, Nat.reduceEqDiff, Nat.zero_add, Nat.add_zero, Nat.le_refl, Nat.zero_le, true_and, and_true, true_or, or_true, false_or, or_false, reduceIte, h36]
  refine sp_endFirst h36 _ ?_
  have e0 : mA (efC c2 k (wayF (fromF M a) (toF M a) (M.1 23 t') (M.1 41 k))) 3 k = true := h36
  have e1 : mA (efC c2 k (wayF (fromF M a) (toF M a) (M.1 23 t') (M.1 41 k))) 5 t' = true := h56
  have e2 : mA (efC c2 k (wayF (fromF M a) (toF M a) (M.1 23 t') (M.1 41 k))) 1 a = true := h16
  have e3 : mA (efC c2 k (wayF (fromF M a) (toF M a) (M.1 23 t') (M.1 41 k))) 6 0 = true := hc2.a6
  have e4 : mI (efC c2 k (wayF (fromF M a) (toF M a) (M.1 23 t') (M.1 41 k))) 1 6 a = toF M a := (f1 6 (by omega)).trans c6
  simp only [o_al, o_gf, o_pI, o_ic, o_if, nth_0, nth_3, nth_2, nth_1, opV_2, opS_4, opV_1, opV_0, mV_5_4, al_5, cI_5, ix_5, mV_3_7, al_3, cI_3, ix_3, mV_1_5, al_1, cI_1, ix_1, mV_1_6, al_6, ix_6, hc.a6, cw_5, cw_6, cw_3, cats_nil, cats_cons, rf_s, rf_n, isR_r, isR_n, isR_rf, cat_i, cat_l, cat_r, cat_n, cat_rf, unl_i, unl_l, unl_r, unl_n, unl_j, unl_rf, orf_r, orf_n, orf_rf, rf_null, mA_pm, mL_pm, mP_pm, List.length_cons, List.length_nil, List.cons_append, List.nil_append, Nat.reduceAdd, Nat.reduceLeDiff, Nat.reduceLT, Nat.reduceEqDiff, Nat.zero_add, Nat.add_zero, Nat.le_refl, Nat.zero_le, true_and, and_true, true_or, or_true, false_or, or_false, reduceIte, e0, e1, e2, e3, e4, mA_wI]
  refine sp_workLeft (c := wI (wI (efC c2 k (wayF (fromF M a) (toF M a) (M.1 23 t') (M.1 41 k))) 5 4 t' (toF M a)) 6 13 0 (-1)) e0 ?_
  have e5 : mI (wI (wI (efC c2 k (wayF (fromF M a) (toF M a) (M.1 23 t') (M.1 41 k))) 5 4 t' (toF M a)) 6 13 0 (-1)) 3 5 k - mI (wI (wI (efC c2 k (wayF (fromF M a) (toF M a) (M.1 23 t') (M.1 41 k))) 5 4 t' (toF M a)) 6 13 0 (-1)) 3 4 k = nI n := by
    unfold efC
    simp only [mI_wI, mJ_wI, mP_wI, mL_wI, mA_wI, mI_wJ, mJ_wJ, mP_wJ, mL_wJ, mA_wJ, uI_1, uI_2, uJ_1, uJ_2, Nat.reduceEqDiff, false_and, and_false, true_and, and_true, reduceIte]
    rw [f3 4 (by omega), f3 5 (by omega), r6, r7, hn, nI_1, pk_sub (by omega)]
    congr 1
    omega
  rw [e5]
  have k157 : ∀ c', Q [.int 1] (pm c' N) → ∀ ls, X 157 ls [] (pm c' N) 0 0 := by
    intro c' h ls
    apply h157
    simp only [B_X6_workIn_157, o_ic, o_iret, cats_nil, cats_cons, rf_s, rf_n, isR_r, isR_n, isR_rf, cat_i, cat_l, cat_r, cat_n, cat_rf, unl_i, unl_l, unl_r, unl_n, unl_j, unl_rf, orf_r, orf_n, orf_rf, rf_null, mA_pm, mL_pm, mP_pm, List.length_cons, List.length_nil, List.cons_append, List.nil_append, Nat.reduceAdd, Nat.reduceLeDiff, Nat.reduceLT, Nat.reduceEqDiff, Nat.zero_add, Nat.add_zero, Nat.le_refl, Nat.zero_le, true_and, and_true, true_or, or_true, false_or, or_false, reduceIte]
    exact h
  unfold enC at fin2
  simp only [o_al, o_gf, o_pI, o_ic, o_if, nth_0, nth_3, nth_2, nth_1, opV_2, opS_4, opV_1, opV_0, mV_5_4, al_5, cI_5, ix_5, mV_3_7, al_3, cI_3, ix_3, mV_1_5, al_1, cI_1, ix_1, mV_1_6, al_6, ix_6, hc.a6, cw_5, cw_6, cw_3, cats_nil, cats_cons, rf_s, rf_n, isR_r, isR_n, isR_rf, cat_i, cat_l, cat_r, cat_n, cat_rf, unl_i, unl_l, unl_r, unl_n, unl_j, unl_rf, orf_r, orf_n, orf_rf, rf_null, mA_pm, mL_pm, mP_pm, List.length_cons, List.length_nil, List.cons_append, List.nil_append, Nat.reduceAdd, Nat.reduceLeDiff, Nat.reduceLT, Nat.reduceEqDiff, Nat.zero_add, Nat.add_zero, Nat.le_refl, Nat.zero_le, true_and, and_true, true_or, or_true, false_or, or_false, reduceIte, e0, mA_wI]
  refine ⟨fun y => ?_, fun y => ?_⟩
  · have hn0 : n = 0 := by
      rw [show (0 : Int32) = nI 0 from rfl, nI_eq_iff (by omega)] at y
      exact y
    rw [if_pos hn0] at fin2
    exact k157 _ fin2 _
  · have hn0 : ¬ n = 0 := fun z => y (by rw [z]; rfl)
    rw [if_neg hn0] at fin2
    exact k157 _ fin2 _
end ZC32
