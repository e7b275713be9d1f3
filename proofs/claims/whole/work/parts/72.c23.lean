/-! The class: a reader begins -/
def stepW (c : HP) (r t i k : Nat) : HP := wI (wI (cwC (wI c 1 7 k 1) k t (-1)) 19 i r (nI k)) 3 5 r (nI (i + 1))
def swF (c : HP) (r t : Nat) (f : Nat → Nat) : Nat → HP
  | 0 => c
  | n + 1 => stepW (swF c r t f n) r t n (f n)
theorem swF_s (c : HP) (r t : Nat) (f : Nat → Nat) (n : Nat) : swF c r t f (n + 1) = wI (wI (cwC (wI (swF c r t f n) 1 7 (f n) 1) (f n) t (-1)) 19 n r (nI (f n))) 3 5 r (nI (n + 1)) := rfl
theorem cwC_3 (c : HP) (k t : Nat) (b : Int32) (i j : Nat) : mI (cwC c k t b) 3 i j = mI c 3 i j := by
  unfold cwC
  split
  · rw [mI_wI, mI_wI, if_neg (by omega), if_neg (by omega)]
  · rw [mI_wI, mI_wI, mI_wI, mI_wI, if_neg (by omega), if_neg (by omega), if_neg (by omega), if_neg (by omega)]
def wSw : Nat → Nat → Nat → Prop := fun k i _ => (k = 1 ∧ i = 7) ∨ (k = 6 ∧ 13 ≤ i ∧ i ≤ 15) ∨ (k = 5 ∧ 7 ≤ i) ∨ k = 19 ∨ (k = 3 ∧ i = 5)
theorem cw_fr {w : Nat → Nat → Nat → Prop} {c c1 : HP} (h : FRI w c c1) (k t : Nat) (b : Int32) (w1 : w 6 13 0) (w2 : w 6 14 0) (w3 : w 6 15 0) (w4 : w 5 7 t) (w5 : w 5 8 t) : FRI w c (cwC c1 k t b) := by
  unfold cwC
  split
  · exact (h.w _ w1).w _ w3
  · exact (((h.w _ w1).w _ w2).w _ w4).w _ w5
theorem sw_fr {c : HP} {r t : Nat} {f : Nat → Nat} : ∀ n, FRI wSw c (swF c r t f n)
  | 0 => FRI.rf _ _
  | n + 1 => by
    have h := sw_fr (c := c) (r := r) (t := t) (f := f) n
    have h1 := cw_fr (h.w (k := 1) (i := 7) (j := f n) 1 (Or.inl ⟨rfl, rfl⟩)) (f n) t (-1) (Or.inr (Or.inl ⟨rfl, by omega, by omega⟩)) (Or.inr (Or.inl ⟨rfl, by omega, by omega⟩)) (Or.inr (Or.inl ⟨rfl, by omega, by omega⟩)) (Or.inr (Or.inr (Or.inl ⟨rfl, by omega⟩))) (Or.inr (Or.inr (Or.inl ⟨rfl, by omega⟩)))
    exact (h1.w _ (Or.inr (Or.inr (Or.inr (Or.inl rfl))))).w _ (Or.inr (Or.inr (Or.inr (Or.inr ⟨rfl, rfl⟩))))
theorem FRI.skd {w : Nat → Nat → Nat → Prop} {c c1 : HP} (h : FRI w c c1) {nT nR nA : Nat} (g : SKD c nT nR nA) : SKD c1 nT nR nA := by
  obtain ⟨g1, g2, g3, g4, g5, g6⟩ := g
  exact ⟨fun i hi => by rw [h.P]; exact g1 i hi, fun i hi => by rw [h.P]; exact g2 i hi, fun i hi => by rw [h.P]; exact g3 i hi, fun t ht => by rw [h.A]; exact g4 t ht, fun k hk => by rw [h.A, h.P, h.L]; exact g5 k hk, fun k hk => by rw [h.A]; exact g6 k hk⟩
section ZC23
variable {l : Launch} {D : DD} {d : Nat} {c : HP} {M : MD} {Q : List Value → HP → Prop}
theorem sp_startWork (hc : SKF c) {nT nR nA r t n : Nat} {f : Nat → Nat} (hd : SKD c nT nR nA) (hT2 : nT ≤ 12) (hA2 : nA ≤ 150) (hr : r < nR) (ht : t < nT) (hn : n ≤ 8) (h29 : mI c 2 9 0 = nI n) (hf : ∀ i, i < n → f i < nA ∧ mI c 15 i 0 = nI (f i) ∧ mI c 1 1 (f i) = nI t) (H : Q [] (pm (swF (dwC (wI (wI c 5 5 t 2) 3 2 r 2) r) r t f n) M)) : K_X6_startWork l D (d + 3) [.ref (ob 6 0), .ref (ob 5 t), .ref (ob 3 r)] (pm c M) Q := by
  refine m_X6_startWork (lsA := [.ref (ob 6 0), .ref (ob 5 t), .ref (ob 3 r), jk, jk, jk]) rfl (Nat.le_of_ble_eq_true rfl) ?_
  intro X h0 h16 h72 h78
  have ha := (hd.2.2.2.2.1 r hr).1
  have hat := hd.2.2.2.1 t ht
  obtain ⟨c0, hc0⟩ : ∃ c0, c0 = dwC (wI (wI c 5 5 t 2) 3 2 r 2) r := ⟨_, rfl⟩
  rw [← hc0] at H
  have hF0 : FRI (fun k i j => (k = 5 ∧ i = 5) ∨ k = 3) c c0 := by
    rw [hc0]
    exact ((((((FRI.rf _ c).w _ (Or.inl ⟨rfl, rfl⟩)).w _ (Or.inr rfl)).w _ (Or.inr rfl)).w _ (Or.inr rfl)).w _ (Or.inr rfl)).w _ (Or.inr rfl)
  have hc0k := hF0.sk hc
  have hd0 := hF0.skd hd
  have loop : ∀ m i w4 w5, i + m = n → (i = 0 → mI c0 3 5 r = nI 0) → X 16 [.ref (ob 6 0), .ref (ob 5 t), .ref (ob 3 r), .int (nI i), w4, w5] [] (pm (swF c0 r t f i) M) 0 0 := by
    intro m
    induction m with
    | zero =>
      intro i w4 w5 hi h5
      obtain rfl : i = n := by omega
      have hF := sw_fr (c := c0) (r := r) (t := t) (f := f) i
      have hc1 := hF.sk hc0k
      have g29 : mI (swF c0 r t f i) 2 9 0 = nI i := by rw [hF.I (fun w => by unfold wSw at w; omega), hF0.I (fun w => by omega)]; exact h29
      apply h16
      simp only [B_X6_startWork_16, o_il, o_al, o_gf, o_ic2, o_is, o_as, o_ifn, o_ic, o_pI, nth_3, nth_0, lset_4, nth_4, lset_5, nth_5, nth_2, opS_2, opV_1, opV_2, mV_6_5, al_6, hc.p6_5, hc.a6, ix_6, mV_2_9, al_2, cI_2, hc.a2, ix_2, mV_2_7, hc.p2_7, kd_15, ix_15, hc.l15, cI_15, cw_15, al_3, ix_3, al_1, ix_1, cw_1, cats_nil, cats_cons, rf_s, rf_n, isR_r, isR_n, isR_rf, cat_i, cat_l, cat_r, cat_n, cat_rf, unl_i, unl_l, unl_r, unl_n, unl_j, unl_rf, orf_r, orf_n, orf_rf, rf_null, mA_pm, mL_pm, mP_pm, List.length_cons, List.length_nil, List.cons_append, List.nil_append, Nat.reduceAdd, Nat.reduceLeDiff, Nat.reduceLT, Nat.reduceEqDiff, Nat.zero_add, Nat.add_zero, Nat.le_refl, Nat.zero_le, true_and, and_true, true_or, or_true, false_or, or_false, reduceIte, hc1.a6, hc1.a2, hc1.p6_5, g29]
      refine ⟨fun _ => ?_, fun z => absurd (nI_le (by omega) (by omega)) z⟩
      apply h78
      simp only [B_X6_startWork_78, o_vret, cats_nil, cats_cons, rf_s, rf_n, isR_r, isR_n, isR_rf, cat_i, cat_l, cat_r, cat_n, cat_rf, unl_i, unl_l, unl_r, unl_n, unl_j, unl_rf, orf_r, orf_n, orf_rf, rf_null, mA_pm, mL_pm, mP_pm, List.length_cons, List.length_nil, List.cons_append, List.nil_append, Nat.reduceAdd, Nat.reduceLeDiff, Nat.reduceLT, Nat.reduceEqDiff, Nat.zero_add, Nat.add_zero, Nat.le_refl, Nat.zero_le, true_and, and_true, true_or, or_true, false_or, or_false, reduceIte]
      exact H
    | succ m ih =>
      intro i w4 w5 hi h5
      have hin : i < n := by omega
      have hi8 : i < 8 := by omega
      have hF := sw_fr (c := c0) (r := r) (t := t) (f := f) i
      have hc1 := hF.sk hc0k
      have hd1 := hF.skd hd0
      obtain ⟨f1, f2, f3⟩ := hf i hin
      have g29 : mI (swF c0 r t f i) 2 9 0 = nI n := by rw [hF.I (fun w => by unfold wSw at w; omega), hF0.I (fun w => by omega)]; exact h29
      have g15 : mI (swF c0 r t f i) 15 i 0 = nI (f i) := by rw [hF.I (fun w => by unfold wSw at w; omega), hF0.I (fun w => by omega)]; exact f2
      have g11 : mI (swF c0 r t f i) 1 1 (f i) = nI t := by rw [hF.I (fun w => by unfold wSw at w; omega), hF0.I (fun w => by omega)]; exact f3
      have g35 : mI (swF c0 r t f i) 3 5 r = nI i := by
        cases i with
        | zero => exact h5 rfl
        | succ i =>
          rw [swF_s, mI_wI, if_pos ⟨rfl, rfl, rfl⟩]
      have hak := hd1.2.2.2.2.2 (f i) f1
      have har := hd1.2.2.2.2.1 r hr
      apply h16
      simp only [B_X6_startWork_16, o_il, o_al, o_gf, o_ic2, o_is, o_as, o_ifn, o_ic, o_pI, nth_3, nth_0, lset_4, nth_4, lset_5, nth_5, nth_2, opS_2, opV_1, opV_2, mV_6_5, al_6, hc.p6_5, hc.a6, ix_6, mV_2_9, al_2, cI_2, hc.a2, ix_2, mV_2_7, hc.p2_7, kd_15, ix_15, hc.l15, cI_15, cw_15, al_3, ix_3, al_1, ix_1, cw_1, cats_nil, cats_cons, rf_s, rf_n, isR_r, isR_n, isR_rf, cat_i, cat_l, cat_r, cat_n, cat_rf, unl_i, unl_l, unl_r, unl_n, unl_j, unl_rf, orf_r, orf_n, orf_rf, rf_null, mA_pm, mL_pm, mP_pm, List.length_cons, List.length_nil, List.cons_append, List.nil_append, Nat.reduceAdd, Nat.reduceLeDiff, Nat.reduceLT, Nat.reduceEqDiff, Nat.zero_add, Nat.add_zero, Nat.le_refl, Nat.zero_le, true_and, and_true, true_or, or_true, false_or, or_false, reduceIte, hc1.a6, hc1.a2, hc1.p6_5, hc1.p2_7, g29]
      refine ⟨fun z => absurd z (by rw [nI_le_iff]; omega), fun _ => ?_⟩
      refine sp_at (n := 8) (by decide) rfl hc1.l15 (by omega) hi8 ?_
      rw [g15]
      simp only [o_il, o_al, o_gf, o_ic2, o_is, o_as, o_ifn, o_ic, o_pI, nth_3, nth_0, lset_4, nth_4, lset_5, nth_5, nth_2, opS_2, opV_1, opV_2, mV_6_5, al_6, hc.p6_5, hc.a6, ix_6, mV_2_9, al_2, cI_2, hc.a2, ix_2, mV_2_7, hc.p2_7, kd_15, ix_15, hc.l15, cI_15, cw_15, al_3, ix_3, al_1, ix_1, cw_1, cats_nil, cats_cons, rf_s, rf_n, isR_r, isR_n, isR_rf, cat_i, cat_l, cat_r, cat_n, cat_rf, unl_i, unl_l, unl_r, unl_n, unl_j, unl_rf, orf_r, orf_n, orf_rf, rf_null, mA_pm, mL_pm, mP_pm, List.length_cons, List.length_nil, List.cons_append, List.nil_append, Nat.reduceAdd, Nat.reduceLeDiff, Nat.reduceLT, Nat.reduceEqDiff, Nat.zero_add, Nat.add_zero, Nat.le_refl, Nat.zero_le, true_and, and_true, true_or, or_true, false_or, or_false, reduceIte, hc1.a6]
      refine sp_askAt hc1 hd1 hA2 _ (fun v hv => ?_)
      rcases hv with ⟨k', k1, k2, rfl⟩ | ⟨k1, -⟩
      rotate_left
      · exact absurd rfl (k1 _ f1)
      rw [nI_eq_iff] at k2
      subst k2
      simp only [o_il, o_al, o_gf, o_ic2, o_is, o_as, o_ifn, o_ic, o_pI, nth_3, nth_0, lset_4, nth_4, lset_5, nth_5, nth_2, opS_2, opV_1, opV_2, mV_6_5, al_6, hc.p6_5, hc.a6, ix_6, mV_2_9, al_2, cI_2, hc.a2, ix_2, mV_2_7, hc.p2_7, kd_15, ix_15, hc.l15, cI_15, cw_15, al_3, ix_3, al_1, ix_1, cw_1, cats_nil, cats_cons, rf_s, rf_n, isR_r, isR_n, isR_rf, cat_i, cat_l, cat_r, cat_n, cat_rf, unl_i, unl_l, unl_r, unl_n, unl_j, unl_rf, orf_r, orf_n, orf_rf, rf_null, mA_pm, mL_pm, mP_pm, List.length_cons, List.length_nil, List.cons_append, List.nil_append, Nat.reduceAdd, Nat.reduceLeDiff, Nat.reduceLT, Nat.reduceEqDiff, Nat.zero_add, Nat.add_zero, Nat.le_refl, Nat.zero_le, true_and, and_true, true_or, or_true, false_or, or_false, reduceIte, hc1.a6, hak, al_1, al_3, rnn, false_imp_iff, not_false_eq_true, true_imp_iff, mA_wI]
      refine sp_changeWaiting (c := wI (swF c0 r t f i) 1 7 (f i) 1) (nT := nT) (nR := nR) (nA := nA) hc1 hd1 hT2 f1 ht (by rw [mI_wI, if_neg (by omega)]; exact g11) (-1) ?_
      have hF2 := cw_fr ((FRI.rf wSw (swF c0 r t f i)).w (k := 1) (i := 7) (j := f i) 1 (Or.inl ⟨rfl, rfl⟩)) (f i) t (-1) (Or.inr (Or.inl ⟨rfl, by omega, by omega⟩)) (Or.inr (Or.inl ⟨rfl, by omega, by omega⟩)) (Or.inr (Or.inl ⟨rfl, by omega, by omega⟩)) (Or.inr (Or.inr (Or.inl ⟨rfl, by omega⟩))) (Or.inr (Or.inr (Or.inl ⟨rfl, by omega⟩)))
      have hd2 := hF2.skd hd1
      have har2 := hd2.2.2.2.2.1 r hr
      have g35' : mI (cwC (wI (swF c0 r t f i) 1 7 (f i) 1) (f i) t (-1)) 3 5 r = nI i := by
        rw [cwC_3, mI_wI, if_neg (by omega)]
        exact g35
      simp only [o_il, o_al, o_gf, o_ic2, o_is, o_as, o_ifn, o_ic, o_pI, nth_3, nth_0, lset_4, nth_4, lset_5, nth_5, nth_2, opS_2, opV_1, opV_2, mV_6_5, al_6, hc.p6_5, hc.a6, ix_6, mV_2_9, al_2, cI_2, hc.a2, ix_2, mV_2_7, hc.p2_7, kd_15, ix_15, hc.l15, cI_15, cw_15, al_3, ix_3, al_1, ix_1, cw_1, cats_nil, cats_cons, rf_s, rf_n, isR_r, isR_n, isR_rf, cat_i, cat_l, cat_r, cat_n, cat_rf, unl_i, unl_l, unl_r, unl_n, unl_j, unl_rf, orf_r, orf_n, orf_rf, rf_null, mA_pm, mL_pm, mP_pm, List.length_cons, List.length_nil, List.cons_append, List.nil_append, Nat.reduceAdd, Nat.reduceLeDiff, Nat.reduceLT, Nat.reduceEqDiff, Nat.zero_add, Nat.add_zero, Nat.le_refl, Nat.zero_le, true_and, and_true, true_or, or_true, false_or, or_false, reduceIte, har2.1, al_3]
      refine sp_addWork har2.1 har2.2.1 har2.2.2 g35' hi8 _ ?_
      simp only [o_il, o_al, o_gf, o_ic2, o_is, o_as, o_ifn, o_ic, o_pI, nth_3, nth_0, lset_4, nth_4, lset_5, nth_5, nth_2, opS_2, opV_1, opV_2, mV_6_5, al_6, hc.p6_5, hc.a6, ix_6, mV_2_9, al_2, cI_2, hc.a2, ix_2, mV_2_7, hc.p2_7, kd_15, ix_15, hc.l15, cI_15, cw_15, al_3, ix_3, al_1, ix_1, cw_1, cats_nil, cats_cons, rf_s, rf_n, isR_r, isR_n, isR_rf, cat_i, cat_l, cat_r, cat_n, cat_rf, unl_i, unl_l, unl_r, unl_n, unl_j, unl_rf, orf_r, orf_n, orf_rf, rf_null, mA_pm, mL_pm, mP_pm, List.length_cons, List.length_nil, List.cons_append, List.nil_append, Nat.reduceAdd, Nat.reduceLeDiff, Nat.reduceLT, Nat.reduceEqDiff, Nat.zero_add, Nat.add_zero, Nat.le_refl, Nat.zero_le, true_and, and_true, true_or, or_true, false_or, or_false, reduceIte]
      apply h72
      simp only [B_X6_startWork_72, o_inc, nth_3, lset_3, cats_nil, cats_cons, rf_s, rf_n, isR_r, isR_n, isR_rf, cat_i, cat_l, cat_r, cat_n, cat_rf, unl_i, unl_l, unl_r, unl_n, unl_j, unl_rf, orf_r, orf_n, orf_rf, rf_null, mA_pm, mL_pm, mP_pm, List.length_cons, List.length_nil, List.cons_append, List.nil_append, Nat.reduceAdd, Nat.reduceLeDiff, Nat.reduceLT, Nat.reduceEqDiff, Nat.zero_add, Nat.add_zero, Nat.le_refl, Nat.zero_le, true_and, and_true, true_or, or_true, false_or, or_false, reduceIte, nI_1]
      have h1 := ih (i + 1) (.int (nI (f i))) (.ref (ob 1 (f i))) (by omega) (fun z => absurd z (by omega))
      rw [swF_s] at h1
      exact h1
  apply h0
  simp only [B_X6_startWork_0, o_al, o_ic, o_pI, o_is, nth_1, nth_2, lset_3, opV_0, al_3, ix_3, al_5, ix_5, cw_5, cw_3, cats_nil, cats_cons, rf_s, rf_n, isR_r, isR_n, isR_rf, cat_i, cat_l, cat_r, cat_n, cat_rf, unl_i, unl_l, unl_r, unl_n, unl_j, unl_rf, orf_r, orf_n, orf_rf, rf_null, mA_pm, mL_pm, mP_pm, List.length_cons, List.length_nil, List.cons_append, List.nil_append, Nat.reduceAdd, Nat.reduceLeDiff, Nat.reduceLT, Nat.reduceEqDiff, Nat.zero_add, Nat.add_zero, Nat.le_refl, Nat.zero_le, true_and, and_true, true_or, or_true, false_or, or_false, reduceIte, hat, ha, mA_wI]
  refine sp_dropWork (c := wI (wI c 5 5 t 2) 3 2 r 2) ha ?_
  simp only [o_al, o_ic, o_pI, o_is, nth_1, nth_2, lset_3, opV_0, al_3, ix_3, al_5, ix_5, cw_5, cw_3, cats_nil, cats_cons, rf_s, rf_n, isR_r, isR_n, isR_rf, cat_i, cat_l, cat_r, cat_n, cat_rf, unl_i, unl_l, unl_r, unl_n, unl_j, unl_rf, orf_r, orf_n, orf_rf, rf_null, mA_pm, mL_pm, mP_pm, List.length_cons, List.length_nil, List.cons_append, List.nil_append, Nat.reduceAdd, Nat.reduceLeDiff, Nat.reduceLT, Nat.reduceEqDiff, Nat.zero_add, Nat.add_zero, Nat.le_refl, Nat.zero_le, true_and, and_true, true_or, or_true, false_or, or_false, reduceIte]
  have := loop n 0 jk jk (by omega) (fun _ => by
    rw [hc0]
    unfold dwC
    rw [mI_wI, mI_wI, mI_wI, if_neg (by omega), if_neg (by omega), if_pos ⟨rfl, rfl, rfl⟩]
    rfl)
  rw [show swF c0 r t f 0 = c0 from rfl, hc0] at this
  exact this
end ZC23
