/-! The class: an arm moves -/
theorem i_suc {x y : Int32} (h : x < y) : (x + 1).toInt = x.toInt + 1 := by
  have h1 := Int32.lt_iff_toInt_lt.mp h
  have h2 := y.toInt_lt
  have h3 := x.le_toInt
  rw [Int32.toInt_add, show (1 : Int32).toInt = 1 from rfl]
  exact Int.bmod_eq_of_le (by omega) (by omega)
theorem i_prd {x y : Int32} (h : y < x) : (x + -1).toInt = x.toInt - 1 := by
  have h1 := Int32.lt_iff_toInt_lt.mp h
  have h2 := x.toInt_lt
  have h3 := y.le_toInt
  rw [Int32.toInt_add, show (-1 : Int32).toInt = -1 from rfl]
  exact Int.bmod_eq_of_le (by omega) (by omega)
theorem lo3_le (a b c : Int32) : (lo3 a b c).toInt ≤ a.toInt ∧ (lo3 a b c).toInt ≤ b.toInt ∧ (lo3 a b c).toInt ≤ c.toInt ∧ ((lo3 a b c).toInt = a.toInt ∨ (lo3 a b c).toInt = b.toInt ∨ (lo3 a b c).toInt = c.toInt) := by
  unfold lo3
  simp only [Int32.lt_iff_toInt_lt]
  (repeat' split) <;> omega
theorem le_hi3 (a b c : Int32) : a.toInt ≤ (hi3 a b c).toInt ∧ b.toInt ≤ (hi3 a b c).toInt ∧ c.toInt ≤ (hi3 a b c).toInt ∧ ((hi3 a b c).toInt = a.toInt ∨ (hi3 a b c).toInt = b.toInt ∨ (hi3 a b c).toInt = c.toInt) := by
  unfold hi3
  simp only [Int32.lt_iff_toInt_lt]
  (repeat' split) <;> omega
/-- a step leads between place and goal -/
theorem step_in {M : MD} {k : Nat} (h : ¬ M.1 42 k = goalF M k) : ((goalF M k).toInt < (M.1 42 k).toInt ∧ (M.1 42 k + stepF M k).toInt = (M.1 42 k).toInt - 1) ∨ ((M.1 42 k).toInt < (goalF M k).toInt ∧ (M.1 42 k + stepF M k).toInt = (M.1 42 k).toInt + 1) := by
  unfold stepF
  by_cases q : goalF M k ≤ M.1 42 k
  · rw [if_pos q]
    have h1 := Int32.le_iff_toInt_le.mp q
    have h2 : ¬ (goalF M k).toInt = (M.1 42 k).toInt := fun z => h (Int32.toInt_inj.mp z).symm
    have h3 : goalF M k < M.1 42 k := Int32.lt_iff_toInt_lt.mpr (by omega)
    exact Or.inl ⟨by omega, i_prd h3⟩
  · rw [if_neg q]
    have h3 := Int32.not_le.mp q
    exact Or.inr ⟨Int32.lt_iff_toInt_lt.mp h3, i_suc h3⟩
theorem GSp_ne {M : MD} (h : GSp M) {k : Nat} (hk : k < 2) (h1 : ¬ M.1 43 k = -1) (h2 : ¬ M.1 43 (1 - k) = -1) (h3 : ¬ M.1 42 k = goalF M k) : ¬ M.1 42 (1 - k) = M.1 42 k + stepF M k := by
  intro z
  have e := congrArg Int32.toInt z
  have hs := step_in h3
  have hk2 : k = 0 ∨ k = 1 := by omega
  rcases hk2 with rfl | rfl
  · have g := Int32.lt_iff_toInt_lt.mp (h h1 h2)
    have u := le_hi3 (M.1 42 0) (goalF M 0) (M.1 45 0)
    have v := lo3_le (M.1 42 1) (goalF M 1) (M.1 45 1)
    simp only [Nat.sub_zero] at e
    omega
  · have g := Int32.lt_iff_toInt_lt.mp (h h2 h1)
    have u := le_hi3 (M.1 42 0) (goalF M 0) (M.1 45 0)
    have v := lo3_le (M.1 42 1) (goalF M 1) (M.1 45 1)
    simp only [Nat.sub_self] at e
    omega
theorem CAr_goal {c : HP} {M : MD} (h : CAr c M) {k : Nat} (hk : k < 2) (hj : ¬ M.1 43 k = -1) : nsF c k = goalF M k := by
  obtain ⟨p2, p3, p4, p5, p6⟩ := (h.2.2 k hk).2.2 hj
  unfold nsF goalF
  rw [p3, p4, p6]
  by_cases z : M.1 80 k = 0
  · rw [bi_f (fun y => y z), if_pos rfl, if_pos z]
  · rw [bi_t z, if_neg (by decide), if_neg z]
section ZC30
variable {l : Launch} {D : DD} {d : Nat} {c : HP} {M N : MD} {Q : List Value → HP → Prop}
theorem mv_arm_d {M : MD} {nT nR k t r : Nat} (g : GJ M nT nR) (gt : GT M nT nR) (hk : k < 2) (h43 : M.1 43 k = nI t) (ht : t < 12) : ¬ M.1 43 (1 - k) = nI t := by
  intro z
  have hk2 : k = 0 ∨ k = 1 := by omega
  rcases hk2 with rfl | rfl
  · have := gt.2.1 (h43.trans z.symm)
    rw [h43] at this
    exact nI_m1 (by omega) this
  · have := gt.2.1 (z.trans h43.symm)
    rw [show M.1 43 0 = nI t from z] at this
    exact nI_m1 (by omega) this
set_option maxHeartbeats 1000000 in
theorem sp_moveArm (hc : SKF c) {nT nR nA k : Nat} (hd : SKD c nT nR nA) (hT2 : nT ≤ 12) (hR2 : nR ≤ 3) (hA2 : nA ≤ 150) (hk : k < 2) (hC : CPT c M nT nR nA) (hG : GMI M nT nR nA) (H : ∀ c', FRJ wTk c c' → CPT c' (mvM M nA k) nT nR nA → Q [] (pm c' N)) : K_X6_moveArm l D (d + 6) [.ref (ob 6 0), .ref (ob 0 k), .ref (ob 0 (1 - k))] (pm c N) Q := by
  refine m_X6_moveArm (lsA := [.ref (ob 6 0), .ref (ob 0 k), .ref (ob 0 (1 - k)), jk, jk, jk]) rfl (Nat.le_of_ble_eq_true rfl) ?_
  intro X h0 h8 h33 h34 h63 h70 h100 h107 h125 h147 h166 h170
  obtain ⟨gS, gA, gH, gW, gR, gJ, gT, gI, gD, gSp, gU⟩ := hG
  obtain ⟨⟨a1, a2, a3, a4, a5, a6, a7, a8⟩, b1, b2, b3, b4⟩ := id hC
  have ak := hc.ar hk
  have ao := hc.ar (show 1 - k < 2 by omega)
  have hkk : ¬ k = 1 - k := by omega
  obtain ⟨p1, p2, p3⟩ := a5.2.2 k hk
  obtain ⟨o1, o2, o3⟩ := a5.2.2 (1 - k) (by omega)
  apply h0
  simp only [B_X6_moveArm_0, o_al, o_if, o_vret, nth_1, opV_0, al_0, ix_0, cats_nil, cats_cons, rf_s, rf_n, isR_r, isR_n, isR_rf, cat_i, cat_l, cat_r, cat_n, cat_rf, unl_i, unl_l, unl_r, unl_n, unl_j, unl_rf, orf_r, orf_n, orf_rf, rf_null, mA_pm, mL_pm, mP_pm, List.length_cons, List.length_nil, List.cons_append, List.nil_append, Nat.reduceAdd, Nat.reduceLeDiff, Nat.reduceLT, Nat.reduceEqDiff, Nat.zero_add, Nat.add_zero, Nat.le_refl, Nat.zero_le, true_and, and_true, true_or, or_true, false_or, or_false, reduceIte, ak]
  refine sp_aJob ak ?_
  rw [p2]
  simp only [o_al, o_if, o_vret, nth_1, opV_0, al_0, ix_0, cats_nil, cats_cons, rf_s, rf_n, isR_r, isR_n, isR_rf, cat_i, cat_l, cat_r, cat_n, cat_rf, unl_i, unl_l, unl_r, unl_n, unl_j, unl_rf, orf_r, orf_n, orf_rf, rf_null, mA_pm, mL_pm, mP_pm, List.length_cons, List.length_nil, List.cons_append, List.nil_append, Nat.reduceAdd, Nat.reduceLeDiff, Nat.reduceLT, Nat.reduceEqDiff, Nat.zero_add, Nat.add_zero, Nat.le_refl, Nat.zero_le, true_and, and_true, true_or, or_true, false_or, or_false, reduceIte]
  refine ⟨fun q => ?_, fun q => ?_⟩
  · have q' : M.1 43 k = -1 := Decidable.not_not.mp (bi_e0 q)
    refine H c (FRJ.rf _ _) ?_
    unfold mvM
    rw [if_pos q']
    exact hC
  have hj : ¬ M.1 43 k = -1 := bi_ne0 q
  obtain ⟨t, r, ht, hr, h43, h46, hcase⟩ := gJ k hk hj
  obtain ⟨u2, u3, u4, u5, u6⟩ := p3 hj
  have eT : (M.1 43 k).toNatClampNeg = t := by rw [h43]; exact ncl (N := 13) (by omega)
  have eR : (M.1 46 k).toNatClampNeg = r := by rw [h46]; exact ncl (N := 4) (by omega)
  have hmv : mvM M nA k = movesM M k t r nA := by
    unfold mvM
    rw [if_neg hj, eT, eR]
  rw [hmv] at H
  have hgo := CAr_goal a5 hk hj
  have ho := mv_arm_d (r := r) gJ gT hk h43 (by omega)
  have hat := hd.2.2.2.1 t ht
  have har := (hd.2.2.2.2.1 r hr).1
  apply h8
  simp only [B_X6_moveArm_8, o_al, o_is, o_gf, o_il, o_ic2, o_ic, nth_1, lset_3, nth_3, opV_0, mV_0_1, al_0, cI_0, ix_0, cats_nil, cats_cons, rf_s, rf_n, isR_r, isR_n, isR_rf, cat_i, cat_l, cat_r, cat_n, cat_rf, unl_i, unl_l, unl_r, unl_n, unl_j, unl_rf, orf_r, orf_n, orf_rf, rf_null, mA_pm, mL_pm, mP_pm, List.length_cons, List.length_nil, List.cons_append, List.nil_append, Nat.reduceAdd, Nat.reduceLeDiff, Nat.reduceLT, Nat.reduceEqDiff, Nat.zero_add, Nat.add_zero, Nat.le_refl, Nat.zero_le, true_and, and_true, true_or, or_true, false_or, or_false, reduceIte, ak]
  refine sp_nextStop ak ?_
  rw [hgo]
  simp only [o_al, o_is, o_gf, o_il, o_ic2, o_ic, nth_1, lset_3, nth_3, opV_0, mV_0_1, al_0, cI_0, ix_0, cats_nil, cats_cons, rf_s, rf_n, isR_r, isR_n, isR_rf, cat_i, cat_l, cat_r, cat_n, cat_rf, unl_i, unl_l, unl_r, unl_n, unl_j, unl_rf, orf_r, orf_n, orf_rf, rf_null, mA_pm, mL_pm, mP_pm, List.length_cons, List.length_nil, List.cons_append, List.nil_append, Nat.reduceAdd, Nat.reduceLeDiff, Nat.reduceLT, Nat.reduceEqDiff, Nat.zero_add, Nat.add_zero, Nat.le_refl, Nat.zero_le, true_and, and_true, true_or, or_true, false_or, or_false, reduceIte, ak, p1]
  refine ⟨fun q1 => ?_, fun q1 => ?_⟩
  · -- at the place
    have k170 : ∀ c' ls, Q [] (pm c' N) → X 170 ls [] (pm c' N) 0 0 := by
      intro c' ls h
      apply h170
      simp only [B_X6_moveArm_170, o_vret, cats_nil, cats_cons, rf_s, rf_n, isR_r, isR_n, isR_rf, cat_i, cat_l, cat_r, cat_n, cat_rf, unl_i, unl_l, unl_r, unl_n, unl_j, unl_rf, orf_r, orf_n, orf_rf, rf_null, mA_pm, mL_pm, mP_pm, List.length_cons, List.length_nil, List.cons_append, List.nil_append, Nat.reduceAdd, Nat.reduceLeDiff, Nat.reduceLT, Nat.reduceEqDiff, Nat.zero_add, Nat.add_zero, Nat.le_refl, Nat.zero_le, true_and, and_true, true_or, or_true, false_or, or_false, reduceIte]
      exact h
    have hm2 : movesM M k t r nA = if M.1 80 k = 0 then takeM M k t r else putM M k t r nA := by
      unfold movesM
      rw [if_pos q1]
    rw [hm2] at H
    apply h70
    simp only [B_X6_moveArm_70, o_al, o_gf, o_as, o_ifn, nth_0, nth_1, lset_4, lset_5, nth_4, nth_5, opV_1, mV_0_3, al_0, cI_0, ix_0, mV_0_4, al_6, ix_6, hc.a6, cats_nil, cats_cons, rf_s, rf_n, isR_r, isR_n, isR_rf, cat_i, cat_l, cat_r, cat_n, cat_rf, unl_i, unl_l, unl_r, unl_n, unl_j, unl_rf, orf_r, orf_n, orf_rf, rf_null, mA_pm, mL_pm, mP_pm, List.length_cons, List.length_nil, List.cons_append, List.nil_append, Nat.reduceAdd, Nat.reduceLeDiff, Nat.reduceLT, Nat.reduceEqDiff, Nat.zero_add, Nat.add_zero, Nat.le_refl, Nat.zero_le, true_and, and_true, true_or, or_true, false_or, or_false, reduceIte, ak, p2, u2, h43, h46]
    refine sp_tapeAt hc hd hT2 _ (fun v hv => ?_)
    rcases hv with ⟨t', t1, t2, rfl⟩ | ⟨t1, -⟩
    rotate_left
    · exact absurd rfl (t1 t ht)
    rw [nI_eq_iff] at t2
    subst t2
    simp only [o_al, o_gf, o_as, o_ifn, nth_0, nth_1, lset_4, lset_5, nth_4, nth_5, opV_1, mV_0_3, al_0, cI_0, ix_0, mV_0_4, al_6, ix_6, hc.a6, cats_nil, cats_cons, rf_s, rf_n, isR_r, isR_n, isR_rf, cat_i, cat_l, cat_r, cat_n, cat_rf, unl_i, unl_l, unl_r, unl_n, unl_j, unl_rf, orf_r, orf_n, orf_rf, rf_null, mA_pm, mL_pm, mP_pm, List.length_cons, List.length_nil, List.cons_append, List.nil_append, Nat.reduceAdd, Nat.reduceLeDiff, Nat.reduceLT, Nat.reduceEqDiff, Nat.zero_add, Nat.add_zero, Nat.le_refl, Nat.zero_le, true_and, and_true, true_or, or_true, false_or, or_false, reduceIte, ak, p2, u2, h43, h46]
    refine sp_readerAt hc hd hR2 _ (fun v hv => ?_)
    rcases hv with ⟨t', t1, t2, rfl⟩ | ⟨t1, -⟩
    rotate_left
    · exact absurd rfl (t1 r hr)
    rw [nI_eq_iff] at t2
    subst t2
    simp only [o_al, o_gf, o_as, o_ifn, nth_0, nth_1, lset_4, lset_5, nth_4, nth_5, opV_1, mV_0_3, al_0, cI_0, ix_0, mV_0_4, al_6, ix_6, hc.a6, cats_nil, cats_cons, rf_s, rf_n, isR_r, isR_n, isR_rf, cat_i, cat_l, cat_r, cat_n, cat_rf, unl_i, unl_l, unl_r, unl_n, unl_j, unl_rf, orf_r, orf_n, orf_rf, rf_null, mA_pm, mL_pm, mP_pm, List.length_cons, List.length_nil, List.cons_append, List.nil_append, Nat.reduceAdd, Nat.reduceLeDiff, Nat.reduceLT, Nat.reduceEqDiff, Nat.zero_add, Nat.add_zero, Nat.le_refl, Nat.zero_le, true_and, and_true, true_or, or_true, false_or, or_false, reduceIte, rnn, false_imp_iff, not_false_eq_true, true_imp_iff]
    apply h107
    simp only [B_X6_moveArm_107, o_al, o_gf, o_if, nth_1, nth_4, nth_5, opS_3, mV_0_8, al_0, cI_0, ix_0, cats_nil, cats_cons, rf_s, rf_n, isR_r, isR_n, isR_rf, cat_i, cat_l, cat_r, cat_n, cat_rf, unl_i, unl_l, unl_r, unl_n, unl_j, unl_rf, orf_r, orf_n, orf_rf, rf_null, mA_pm, mL_pm, mP_pm, List.length_cons, List.length_nil, List.cons_append, List.nil_append, Nat.reduceAdd, Nat.reduceLeDiff, Nat.reduceLT, Nat.reduceEqDiff, Nat.zero_add, Nat.add_zero, Nat.le_refl, Nat.zero_le, true_and, and_true, true_or, or_true, false_or, or_false, reduceIte, ak, u6]
    refine ⟨fun z => ?_, fun z => ?_⟩
    · have z' : M.1 80 k = 0 := Decidable.not_not.mp (bi_e0 z)
      rw [if_pos z'] at H
      refine sp_take ak hat har ?_
      simp only [o_al, o_gf, o_if, nth_1, nth_4, nth_5, opS_3, mV_0_8, al_0, cI_0, ix_0, cats_nil, cats_cons, rf_s, rf_n, isR_r, isR_n, isR_rf, cat_i, cat_l, cat_r, cat_n, cat_rf, unl_i, unl_l, unl_r, unl_n, unl_j, unl_rf, orf_r, orf_n, orf_rf, rf_null, mA_pm, mL_pm, mP_pm, List.length_cons, List.length_nil, List.cons_append, List.nil_append, Nat.reduceAdd, Nat.reduceLeDiff, Nat.reduceLT, Nat.reduceEqDiff, Nat.zero_add, Nat.add_zero, Nat.le_refl, Nat.zero_le, true_and, and_true, true_or, or_true, false_or, or_false, reduceIte]
      refine k170 _ _ (H _ (taC_fr c k t r).j (hC.take hk hj (fun y => ?_) hr))
      rcases hcase with ⟨-, -, -, w⟩ | ⟨-, w, -⟩ | ⟨w, -⟩
      · exact w
      · rw [z'] at w
        exact absurd w (by decide)
      · rw [y] at w
        exact absurd w (by decide)
    · have z' : ¬ M.1 80 k = 0 := bi_ne0 z
      rw [if_neg z'] at H
      have k166 : ∀ c' ls, mA c' 0 k = true → Q [] (pm (wI c' 0 3 k (-1)) N) → X 166 (.ref (ob 6 0) :: .ref (ob 0 k) :: ls) [] (pm c' N) 0 0 := by
        intro c' ls h1 h
        apply h166
        simp only [B_X6_moveArm_166, o_al, nth_1, opV_0, al_0, ix_0, cats_nil, cats_cons, rf_s, rf_n, isR_r, isR_n, isR_rf, cat_i, cat_l, cat_r, cat_n, cat_rf, unl_i, unl_l, unl_r, unl_n, unl_j, unl_rf, orf_r, orf_n, orf_rf, rf_null, mA_pm, mL_pm, mP_pm, List.length_cons, List.length_nil, List.cons_append, List.nil_append, Nat.reduceAdd, Nat.reduceLeDiff, Nat.reduceLT, Nat.reduceEqDiff, Nat.zero_add, Nat.add_zero, Nat.le_refl, Nat.zero_le, true_and, and_true, true_or, or_true, false_or, or_false, reduceIte, h1]
        refine sp_endJob h1 ?_
        simp only [o_al, nth_1, opV_0, al_0, ix_0, cats_nil, cats_cons, rf_s, rf_n, isR_r, isR_n, isR_rf, cat_i, cat_l, cat_r, cat_n, cat_rf, unl_i, unl_l, unl_r, unl_n, unl_j, unl_rf, orf_r, orf_n, orf_rf, rf_null, mA_pm, mL_pm, mP_pm, List.length_cons, List.length_nil, List.cons_append, List.nil_append, Nat.reduceAdd, Nat.reduceLeDiff, Nat.reduceLT, Nat.reduceEqDiff, Nat.zero_add, Nat.add_zero, Nat.le_refl, Nat.zero_le, true_and, and_true, true_or, or_true, false_or, or_false, reduceIte]
        exact k170 _ _ h
      apply h125
      simp only [B_X6_moveArm_125, o_al, o_ic, o_pZ, o_gf, o_if, o_pI, nth_4, nth_1, mV_0_7, al_0, cI_0, ix_0, al_5, ix_5, cw_5, cats_nil, cats_cons, rf_s, rf_n, isR_r, isR_n, isR_rf, cat_i, cat_l, cat_r, cat_n, cat_rf, unl_i, unl_l, unl_r, unl_n, unl_j, unl_rf, orf_r, orf_n, orf_rf, rf_null, mA_pm, mL_pm, mP_pm, List.length_cons, List.length_nil, List.cons_append, List.nil_append, Nat.reduceAdd, Nat.reduceLeDiff, Nat.reduceLT, Nat.reduceEqDiff, Nat.zero_add, Nat.add_zero, Nat.le_refl, Nat.zero_le, true_and, and_true, true_or, or_true, false_or, or_false, reduceIte, ak, hat, u5, mA_wI, mI_wI, Nat.reduceEqDiff, false_and, and_false]
      refine ⟨fun y => ?_, fun y => ?_⟩
      · -- a reader begins
        have y' : ¬ M.1 81 k = 0 := bi_e0 y
        have h37 : M.1 37 r = nI t := by
          rcases hcase with ⟨w, -⟩ | ⟨w, -⟩ | ⟨-, -, w, -⟩
          · exact absurd w y'
          · exact absurd w y'
          · exact w
        have hput : putM M k t r nA = beginsM (uI (uI M 43 k (-1)) 80 k 0) r t nA := by
          unfold putM
          rw [if_neg y']
        rw [hput] at H
        have hF1 : FRI (fun a b _ => a = 5 ∧ b = 6) c (wI c 5 6 t 0) := (FRI.rf _ _).w _ ⟨rfl, rfl⟩
        have hc1 := hF1.sk hc
        have hd1 := hF1.skd hd
        apply h147
        simp only [B_X6_moveArm_147, o_al, o_gf, o_if, nth_0, nth_1, nth_4, nth_5, opV_1, opV_2, mV_0_3, al_0, cI_0, ix_0, al_6, ix_6, hc.a6, cats_nil, cats_cons, rf_s, rf_n, isR_r, isR_n, isR_rf, cat_i, cat_l, cat_r, cat_n, cat_rf, unl_i, unl_l, unl_r, unl_n, unl_j, unl_rf, orf_r, orf_n, orf_rf, rf_null, mA_pm, mL_pm, mP_pm, List.length_cons, List.length_nil, List.cons_append, List.nil_append, Nat.reduceAdd, Nat.reduceLeDiff, Nat.reduceLT, Nat.reduceEqDiff, Nat.zero_add, Nat.add_zero, Nat.le_refl, Nat.zero_le, true_and, and_true, true_or, or_true, false_or, or_false, reduceIte, ak, p2, h43, mA_wI, mI_wI, Nat.reduceEqDiff, false_and, and_false]
        refine sp_makePlan (M := M) hc1 hd1 hT2 hA2 (a1.fr hF1.q (fun i j z => by omega) (fun j => hF1.J 1 9 j) (EK.rf _ _) (fun _ => rfl)) (fun s hs => by rw [hF1.I (fun z => by omega)]; exact (a2 s hs).2.2.2.1) gA gH (fun s hs e => ?_) (nI t) (fun s c2 s1 s2 f1 f2 f3 => ?_) (fun w => absurd rfl (w t ht))
        · rw [hF1.I (fun z => by omega)] at e
          rcases b2 with b2 | ⟨s', e1, e2, e3⟩
          · rw [e] at b2
            exact absurd b2 (nI_m1 (by omega))
          · rw [e, nI_eq_iff] at e2
            subst e2
            exact e3.fr hF1 (fun a b _ z => by omega) (AG.rf M)
        · rw [nI_eq_iff] at s2
          subst s2
          have hc2 := f1.sk hc1
          have hd2 := f1.skd hd1
          simp only [o_al, o_gf, o_if, nth_0, nth_1, nth_4, nth_5, opV_1, opV_2, mV_0_3, al_0, cI_0, ix_0, al_6, ix_6, hc.a6, cats_nil, cats_cons, rf_s, rf_n, isR_r, isR_n, isR_rf, cat_i, cat_l, cat_r, cat_n, cat_rf, unl_i, unl_l, unl_r, unl_n, unl_j, unl_rf, orf_r, orf_n, orf_rf, rf_null, mA_pm, mL_pm, mP_pm, List.length_cons, List.length_nil, List.cons_append, List.nil_append, Nat.reduceAdd, Nat.reduceLeDiff, Nat.reduceLT, Nat.reduceEqDiff, Nat.zero_add, Nat.add_zero, Nat.le_refl, Nat.zero_le, true_and, and_true, true_or, or_true, false_or, or_false, reduceIte, hc2.a6]
          refine ⟨fun z => absurd z (by decide), fun _ => ?_⟩
          refine sp_startWork (n := (gl M t nA).length) (f := oS M t nA) hc2 hd2 hT2 hA2 hr ht (gl_len M t nA) f2.1.2.2.1 (fun i hi => ⟨(oS_lt hi).1, f2.2.2.2.1 i hi, ?_⟩) ?_
          · rw [f1.I (fun z => by have := z.2; omega), hF1.I (fun z => by omega), (a1 _ (oS_lt hi).1).2.1]
            exact (oS_lt hi).2.1
          · simp only [o_al, o_gf, o_if, nth_0, nth_1, nth_4, nth_5, opV_1, opV_2, mV_0_3, al_0, cI_0, ix_0, al_6, ix_6, hc.a6, cats_nil, cats_cons, rf_s, rf_n, isR_r, isR_n, isR_rf, cat_i, cat_l, cat_r, cat_n, cat_rf, unl_i, unl_l, unl_r, unl_n, unl_j, unl_rf, orf_r, orf_n, orf_rf, rf_null, mA_pm, mL_pm, mP_pm, List.length_cons, List.length_nil, List.cons_append, List.nil_append, Nat.reduceAdd, Nat.reduceLeDiff, Nat.reduceLT, Nat.reduceEqDiff, Nat.zero_add, Nat.add_zero, Nat.le_refl, Nat.zero_le, true_and, and_true, true_or, or_true, false_or, or_false, reduceIte]
            have hfr := bg_fr (M := M) (nA := nA) (k := k) (r := r) f1
            refine k166 _ _ ?_ (H _ (hfr.j.mo (fun a b _ w => by unfold wBg at w; unfold wTk; omega)) (hC.begin_ hk ht hT2 hr hR2 h43 ho h37 f1 f2 f3))
            have := hfr.A 0 k
            rw [ak] at this
            exact this
      · have y' : M.1 81 k = 0 := bi_ne0 y
        have hput : putM M k t r nA = uI (uI (uI M 43 k (-1)) 80 k 0) 24 t 0 := by
          unfold putM
          rw [if_pos y']
        rw [hput] at H
        refine k166 _ _ ak (H _ ?_ (hC.home hk ht hT2 h43 ho))
        exact (((FRJ.rf wTk c).w _ (by unfold wTk; omega)).w _ (by unfold wTk; omega)).w _ (by unfold wTk; omega)
  · -- on the way
    have hmg : movesM M k t r nA = goM M k := by
      unfold movesM
      rw [if_neg q1]
    rw [hmg] at H
    have H' := H _ ((gpC_fr c M k (stepF M k)).j.mo (fun a b _ w => by unfold wGo at w; unfold wTk; omega)) (hC.go hk)
    have k63 : ∀ w3, X 63 [.ref (ob 6 0), .ref (ob 0 k), .ref (ob 0 (1 - k)), w3, .int (stepF M k), jk] [] (pm (if M.1 42 (1 - k) = M.1 42 k + stepF M k then goC c (1 - k) (stepF M k) else c) N) 0 0 := by
      intro w3
      have ak' : mA (if M.1 42 (1 - k) = M.1 42 k + stepF M k then goC c (1 - k) (stepF M k) else c) 0 k = true := by
        split
        · exact ak
        · exact ak
      apply h63
      simp only [B_X6_moveArm_63, o_al, o_il, o_vret, nth_1, nth_4, opV_1, al_0, ix_0, cats_nil, cats_cons, rf_s, rf_n, isR_r, isR_n, isR_rf, cat_i, cat_l, cat_r, cat_n, cat_rf, unl_i, unl_l, unl_r, unl_n, unl_j, unl_rf, orf_r, orf_n, orf_rf, rf_null, mA_pm, mL_pm, mP_pm, List.length_cons, List.length_nil, List.cons_append, List.nil_append, Nat.reduceAdd, Nat.reduceLeDiff, Nat.reduceLT, Nat.reduceEqDiff, Nat.zero_add, Nat.add_zero, Nat.le_refl, Nat.zero_le, true_and, and_true, true_or, or_true, false_or, or_false, reduceIte, ak']
      refine sp_go ak' _ ?_
      simp only [o_al, o_il, o_vret, nth_1, nth_4, opV_1, al_0, ix_0, cats_nil, cats_cons, rf_s, rf_n, isR_r, isR_n, isR_rf, cat_i, cat_l, cat_r, cat_n, cat_rf, unl_i, unl_l, unl_r, unl_n, unl_j, unl_rf, orf_r, orf_n, orf_rf, rf_null, mA_pm, mL_pm, mP_pm, List.length_cons, List.length_nil, List.cons_append, List.nil_append, Nat.reduceAdd, Nat.reduceLeDiff, Nat.reduceLT, Nat.reduceEqDiff, Nat.zero_add, Nat.add_zero, Nat.le_refl, Nat.zero_le, true_and, and_true, true_or, or_true, false_or, or_false, reduceIte]
      exact H'
    have k34 : X 34 [.ref (ob 6 0), .ref (ob 0 k), .ref (ob 0 (1 - k)), .int (goalF M k), jk, jk] [.int (stepF M k)] (pm c N) 0 0 := by
      apply h34
      simp only [B_X6_moveArm_34, o_is, o_al, o_if, o_gf, o_il, o_ii, o_ic2, lset_4, nth_2, nth_1, nth_4, opV_0, opV_1, mV_0_1, al_0, cI_0, ix_0, cats_nil, cats_cons, rf_s, rf_n, isR_r, isR_n, isR_rf, cat_i, cat_l, cat_r, cat_n, cat_rf, unl_i, unl_l, unl_r, unl_n, unl_j, unl_rf, orf_r, orf_n, orf_rf, rf_null, mA_pm, mL_pm, mP_pm, List.length_cons, List.length_nil, List.cons_append, List.nil_append, Nat.reduceAdd, Nat.reduceLeDiff, Nat.reduceLT, Nat.reduceEqDiff, Nat.zero_add, Nat.add_zero, Nat.le_refl, Nat.zero_le, true_and, and_true, true_or, or_true, false_or, or_false, reduceIte, ak, ao]
      refine sp_aJob ao ?_
      rw [o2]
      simp only [o_is, o_al, o_if, o_gf, o_il, o_ii, o_ic2, lset_4, nth_2, nth_1, nth_4, opV_0, opV_1, mV_0_1, al_0, cI_0, ix_0, cats_nil, cats_cons, rf_s, rf_n, isR_r, isR_n, isR_rf, cat_i, cat_l, cat_r, cat_n, cat_rf, unl_i, unl_l, unl_r, unl_n, unl_j, unl_rf, orf_r, orf_n, orf_rf, rf_null, mA_pm, mL_pm, mP_pm, List.length_cons, List.length_nil, List.cons_append, List.nil_append, Nat.reduceAdd, Nat.reduceLeDiff, Nat.reduceLT, Nat.reduceEqDiff, Nat.zero_add, Nat.add_zero, Nat.le_refl, Nat.zero_le, true_and, and_true, true_or, or_true, false_or, or_false, reduceIte, ak, ao, o1, p1]
      refine ⟨fun q => ⟨fun y => ?_, fun y => ?_⟩, fun q => ?_⟩
      · refine sp_go ao _ ?_
        simp only [o_is, o_al, o_if, o_gf, o_il, o_ii, o_ic2, lset_4, nth_2, nth_1, nth_4, opV_0, opV_1, mV_0_1, al_0, cI_0, ix_0, cats_nil, cats_cons, rf_s, rf_n, isR_r, isR_n, isR_rf, cat_i, cat_l, cat_r, cat_n, cat_rf, unl_i, unl_l, unl_r, unl_n, unl_j, unl_rf, orf_r, orf_n, orf_rf, rf_null, mA_pm, mL_pm, mP_pm, List.length_cons, List.length_nil, List.cons_append, List.nil_append, Nat.reduceAdd, Nat.reduceLeDiff, Nat.reduceLT, Nat.reduceEqDiff, Nat.zero_add, Nat.add_zero, Nat.le_refl, Nat.zero_le, true_and, and_true, true_or, or_true, false_or, or_false, reduceIte]
        have := k63 (.int (goalF M k))
        rw [if_pos y] at this
        exact this
      · have := k63 (.int (goalF M k))
        rw [if_neg y] at this
        exact this
      · have := k63 (.int (goalF M k))
        rw [if_neg (GSp_ne gSp hk hj (bi_ne0 q) q1)] at this
        exact this
    refine ⟨fun y => ?_, fun y => ?_⟩
    · apply h33
      simp only [B_X6_moveArm_33, o_ic, cats_nil, cats_cons, rf_s, rf_n, isR_r, isR_n, isR_rf, cat_i, cat_l, cat_r, cat_n, cat_rf, unl_i, unl_l, unl_r, unl_n, unl_j, unl_rf, orf_r, orf_n, orf_rf, rf_null, mA_pm, mL_pm, mP_pm, List.length_cons, List.length_nil, List.cons_append, List.nil_append, Nat.reduceAdd, Nat.reduceLeDiff, Nat.reduceLT, Nat.reduceEqDiff, Nat.zero_add, Nat.add_zero, Nat.le_refl, Nat.zero_le, true_and, and_true, true_or, or_true, false_or, or_false, reduceIte]
      have := k34
      unfold stepF at this
      rw [if_pos y] at this
      exact this
    · have := k34
      unfold stepF at this
      rw [if_neg y] at this
      exact this
end ZC30
