/-! The class: a plan is solved -/
theorem bit_z : ∀ u, u < 256 → ∀ i, i < 8 → ((nI u >>> (nI i &&& 31)) &&& 1 = 0 ↔ u.testBit i = false) := by decide +kernel
theorem bit_lt {u i n : Nat} (hu : u < 2 ^ n) (hi : i < n) (hb : u.testBit i = false) : u + 2 ^ i < 2 ^ n := by
  apply Nat.lt_pow_two_of_testBit
  intro k hk
  rw [bit_add hb, Nat.testBit_lt_two_pow (Nat.lt_of_lt_of_le hu (Nat.pow_le_pow_right (by omega) hk))]
  have : ¬ i = k := by omega
  simp [this]
/-- the states of a plan, their rows filled -/
def STm (c : HP) (n hd : Nat) (fr to : Nat → Nat) (m : Nat) : Prop := m ≤ 24 ∧ mI c 2 10 0 = nI m ∧ (∀ i, i < m → ∃ s, s < 24 ∧ okS n hd fr to s ∧ mI c 13 i 0 = nI s ∧ RF c n hd fr to s) ∧ ∀ s, s < 24 → okS n hd fr to s → ∃ i, i < m ∧ mI c 13 i 0 = nI s
theorem RF.fr {w : Nat → Nat → Nat → Prop} {c c1 : HP} {n hd : Nat} {fr to : Nat → Nat} {s : Nat} (h : RF c n hd fr to s) (g : FRI w c c1) (q : ∀ i, ¬ w 11 i 0 ∧ ¬ w 12 i 0) : RF c1 n hd fr to s := fun i hi => by rw [g.I (q _).1, g.I (q _).2]; exact h i hi
theorem STm.fr {w : Nat → Nat → Nat → Prop} {c c1 : HP} {n hd : Nat} {fr to : Nat → Nat} {m : Nat} (h : STm c n hd fr to m) (g : FRI w c c1) (q : ∀ i, ¬ w 11 i 0 ∧ ¬ w 12 i 0 ∧ ¬ w 13 i 0 ∧ ¬ w 2 10 0) : STm c1 n hd fr to m := by
  refine ⟨h.1, by rw [g.I (q 0).2.2.2]; exact h.2.1, fun i hi => ?_, fun s hs ho => ?_⟩
  · obtain ⟨s, s1, s2, s3, s4⟩ := h.2.2.1 i hi
    exact ⟨s, s1, s2, by rw [g.I (q _).2.2.1]; exact s3, s4.fr g (fun i => ⟨(q i).1, (q i).2.1⟩)⟩
  · obtain ⟨i, i1, i2⟩ := h.2.2.2 s hs ho
    exact ⟨i, i1, by rw [g.I (q _).2.2.1]; exact i2⟩
def wS14 : Nat → Nat → Nat → Prop := fun k _ j => k = 14 ∧ j = 0
section ZC6
variable {l : Launch} {D : DD} {d : Nat} {c : HP} {M : MD} {Q : List Value → HP → Prop}
set_option maxHeartbeats 1000000 in
theorem sp_solve (hc : SKF c) {n hd m : Nat} {fr to : Nat → Nat} (hP : PD c n hd fr to) (hT : STm c n hd fr to m) (wt : Bool) (H : ∀ c', FRI wS14 c c' → (∀ u, 0 < u → u < 2 ^ n → RO c' n hd fr to wt u) → Q [] (pm c' M)) : K_X2_solve l D (d + 3) [.ref (ob 2 0), .int (if wt = true then 1 else 0)] (pm c M) Q := by
  refine m_X2_solve (lsA := [.ref (ob 2 0), .int (if wt = true then 1 else 0), jk, jk, jk]) rfl (Nat.le_of_ble_eq_true rfl) ?_
  intro X h0 h9 h15 h69 h75 h81
  have hn := hP.1
  have h29 := hP.2.2.1
  have hm := hT.1
  have hp8 : 2 ^ n ≤ 256 := by have := Nat.pow_le_pow_right (show 0 < 2 by omega) hn; omega
  have outer : ∀ u c1 w3 w4, u < 2 ^ n → FRI wS14 c c1 → (∀ u', u < u' → u' < 2 ^ n → RO c1 n hd fr to wt u') → X 9 [.ref (ob 2 0), .int (if wt = true then 1 else 0), .int (nI u), w3, w4] [] (pm c1 M) 0 0 := by
    intro u
    induction u with
    | zero =>
      intro c1 w3 w4 hu hF hO
      apply h9
      simp only [B_X2_solve_9, o_il, o_if, o_ic, o_is, nth_2, lset_3, cats_nil, cats_cons, rf_s, rf_n, isR_r, isR_n, isR_rf, cat_i, cat_l, cat_r, cat_n, cat_rf, unl_i, unl_l, unl_r, unl_n, unl_j, unl_rf, orf_r, orf_n, orf_rf, rf_null, mA_pm, mL_pm, mP_pm, List.length_cons, List.length_nil, List.cons_append, List.nil_append, Nat.reduceAdd, Nat.reduceLeDiff, Nat.reduceLT, Nat.reduceEqDiff, Nat.zero_add, Nat.add_zero, Nat.le_refl, Nat.zero_le, true_and, and_true, true_or, or_true, false_or, or_false, reduceIte]
      refine ⟨fun _ => ?_, fun z => absurd (by decide) z⟩
      apply h81
      simp only [B_X2_solve_81, o_vret, cats_nil, cats_cons, rf_s, rf_n, isR_r, isR_n, isR_rf, cat_i, cat_l, cat_r, cat_n, cat_rf, unl_i, unl_l, unl_r, unl_n, unl_j, unl_rf, orf_r, orf_n, orf_rf, rf_null, mA_pm, mL_pm, mP_pm, List.length_cons, List.length_nil, List.cons_append, List.nil_append, Nat.reduceAdd, Nat.reduceLeDiff, Nat.reduceLT, Nat.reduceEqDiff, Nat.zero_add, Nat.add_zero, Nat.le_refl, Nat.zero_le, true_and, and_true, true_or, or_true, false_or, or_false, reduceIte]
      exact H c1 hF (fun u' h1 h2 => hO u' h1 h2)
    | succ u ihu =>
      intro c1 w3 w4 hu hF hO
      have hu8 : u + 1 < 256 := by omega
      have inner : ∀ r i c2 w4, i + r = m → FRI wS14 c c2 → (∀ u', u + 1 < u' → u' < 2 ^ n → RO c2 n hd fr to wt u') → (∀ j s, j < i → s < 24 → okS n hd fr to s → mI c 13 j 0 = nI s → (u + 1).testBit (s / 3) = true → mI c2 14 ((u + 1) * 24 + s) 0 = nI (VS n fr to wt (lft (u + 1) n) (u + 1) (plS hd to s) (wyS s)).1) → X 15 [.ref (ob 2 0), .int (if wt = true then 1 else 0), .int (nI (u + 1)), .int (nI i), w4] [] (pm c2 M) 0 0 := by
        intro r
        induction r with
        | zero =>
          intro i c2 w4 hi hF2 hO2 hI
          obtain rfl : i = m := by omega
          have hc2 := hF2.sk hc
          have g10 : mI c2 2 10 0 = nI i := by rw [hF2.I (fun z => by cases z.1)]; exact hT.2.1
          apply h15
          simp only [B_X2_solve_15, o_il, o_al, o_gf, o_ic2, o_is, o_ic, o_iid, o_ii, o_if, nth_3, nth_0, lset_4, nth_2, nth_4, nth_1, opS_2, opV_3, opS_3, mV_2_10, al_2, cI_2, hc.a2, ix_2, mV_2_5, hc.p2_5, kd_13, ix_13, hc.l13, cI_13, cw_13, mV_2_6, hc.p2_6, kd_14, ix_14, hc.l14, cI_14, cw_14, cats_nil, cats_cons, rf_s, rf_n, isR_r, isR_n, isR_rf, cat_i, cat_l, cat_r, cat_n, cat_rf, unl_i, unl_l, unl_r, unl_n, unl_j, unl_rf, orf_r, orf_n, orf_rf, rf_null, mA_pm, mL_pm, mP_pm, List.length_cons, List.length_nil, List.cons_append, List.nil_append, Nat.reduceAdd, Nat.reduceLeDiff, Nat.reduceLT, Nat.reduceEqDiff, Nat.zero_add, Nat.add_zero, Nat.le_refl, Nat.zero_le, true_and, and_true, true_or, or_true, false_or, or_false, reduceIte, hc2.a2, g10, hc2.p2_5, hc2.p2_6]
          refine ⟨fun _ => ?_, fun z => absurd (nI_le (by omega) (by omega)) z⟩
          apply h75
          simp only [B_X2_solve_75, o_inc, nth_2, lset_2, cats_nil, cats_cons, rf_s, rf_n, isR_r, isR_n, isR_rf, cat_i, cat_l, cat_r, cat_n, cat_rf, unl_i, unl_l, unl_r, unl_n, unl_j, unl_rf, orf_r, orf_n, orf_rf, rf_null, mA_pm, mL_pm, mP_pm, List.length_cons, List.length_nil, List.cons_append, List.nil_append, Nat.reduceAdd, Nat.reduceLeDiff, Nat.reduceLT, Nat.reduceEqDiff, Nat.zero_add, Nat.add_zero, Nat.le_refl, Nat.zero_le, true_and, and_true, true_or, or_true, false_or, or_false, reduceIte]
          rw [show nI (u + 1) + -1 = nI u by rw [← nI_1]; grind]
          refine ihu c2 _ _ (by omega) hF2 (fun u' h1 h2 => ?_)
          by_cases e : u' = u + 1
          · subst e
            intro s s1 s2 s3
            obtain ⟨j, j1, j2⟩ := hT.2.2.2 s s2 s1
            exact hI j s j1 s2 s1 j2 s3
          · exact hO2 u' (by omega) h2
        | succ r ih =>
          intro i c2 w4 hi hF2 hO2 hI
          have hc2 := hF2.sk hc
          have him : i < m := by omega
          have hi24 : i < 24 := by omega
          obtain ⟨s, s1, s2, s3, s4⟩ := hT.2.2.1 i him
          have g10 : mI c2 2 10 0 = nI m := by rw [hF2.I (fun z => by cases z.1)]; exact hT.2.1
          have g13 : mI c2 13 i 0 = nI s := by rw [hF2.I (fun z => by cases z.1)]; exact s3
          have hs3 : s / 3 < 8 := by omega
          have k69 : ∀ c3, FRI wS14 c c3 → (∀ u', u + 1 < u' → u' < 2 ^ n → RO c3 n hd fr to wt u') → (∀ j s, j < i + 1 → s < 24 → okS n hd fr to s → mI c 13 j 0 = nI s → (u + 1).testBit (s / 3) = true → mI c3 14 ((u + 1) * 24 + s) 0 = nI (VS n fr to wt (lft (u + 1) n) (u + 1) (plS hd to s) (wyS s)).1) → X 69 [.ref (ob 2 0), .int (if wt = true then 1 else 0), .int (nI (u + 1)), .int (nI i), .int (nI s)] [] (pm c3 M) 0 0 := by
            intro c3 f1 f2 f3
            apply h69
            simp only [B_X2_solve_69, o_inc, nth_3, lset_3, cats_nil, cats_cons, rf_s, rf_n, isR_r, isR_n, isR_rf, cat_i, cat_l, cat_r, cat_n, cat_rf, unl_i, unl_l, unl_r, unl_n, unl_j, unl_rf, orf_r, orf_n, orf_rf, rf_null, mA_pm, mL_pm, mP_pm, List.length_cons, List.length_nil, List.cons_append, List.nil_append, Nat.reduceAdd, Nat.reduceLeDiff, Nat.reduceLT, Nat.reduceEqDiff, Nat.zero_add, Nat.add_zero, Nat.le_refl, Nat.zero_le, true_and, and_true, true_or, or_true, false_or, or_false, reduceIte, nI_1]
            exact ih (i + 1) c3 _ (by omega) f1 f2 f3
          have hsame : ∀ s', mI c 13 i 0 = nI s' → s' < 24 → s' = s := fun s' e hs' => by
            rw [s3, nI_eq_iff] at e
            exact e.symm
          have e3 : nI s / (3 : Int32) = nI (s / 3) := pk_div (d := 3) (by omega) (by omega) (by omega)
          apply h15
          simp only [B_X2_solve_15, o_il, o_al, o_gf, o_ic2, o_is, o_ic, o_iid, o_ii, o_if, nth_3, nth_0, lset_4, nth_2, nth_4, nth_1, opS_2, opV_3, opS_3, mV_2_10, al_2, cI_2, hc.a2, ix_2, mV_2_5, hc.p2_5, kd_13, ix_13, hc.l13, cI_13, cw_13, mV_2_6, hc.p2_6, kd_14, ix_14, hc.l14, cI_14, cw_14, cats_nil, cats_cons, rf_s, rf_n, isR_r, isR_n, isR_rf, cat_i, cat_l, cat_r, cat_n, cat_rf, unl_i, unl_l, unl_r, unl_n, unl_j, unl_rf, orf_r, orf_n, orf_rf, rf_null, mA_pm, mL_pm, mP_pm, List.length_cons, List.length_nil, List.cons_append, List.nil_append, Nat.reduceAdd, Nat.reduceLeDiff, Nat.reduceLT, Nat.reduceEqDiff, Nat.zero_add, Nat.add_zero, Nat.le_refl, Nat.zero_le, true_and, and_true, true_or, or_true, false_or, or_false, reduceIte, hc2.a2, g10, hc2.p2_5, hc2.p2_6]
          refine ⟨fun z => absurd z (by rw [nI_le_iff]; omega), fun _ => ?_⟩
          refine sp_at (n := 24) (by decide) rfl hc2.l13 (by omega) hi24 ?_
          rw [g13]
          simp only [o_il, o_al, o_gf, o_ic2, o_is, o_ic, o_iid, o_ii, o_if, nth_3, nth_0, lset_4, nth_2, nth_4, nth_1, opS_2, opV_3, opS_3, mV_2_10, al_2, cI_2, hc.a2, ix_2, mV_2_5, hc.p2_5, kd_13, ix_13, hc.l13, cI_13, cw_13, mV_2_6, hc.p2_6, kd_14, ix_14, hc.l14, cI_14, cw_14, cats_nil, cats_cons, rf_s, rf_n, isR_r, isR_n, isR_rf, cat_i, cat_l, cat_r, cat_n, cat_rf, unl_i, unl_l, unl_r, unl_n, unl_j, unl_rf, orf_r, orf_n, orf_rf, rf_null, mA_pm, mL_pm, mP_pm, List.length_cons, List.length_nil, List.cons_append, List.nil_append, Nat.reduceAdd, Nat.reduceLeDiff, Nat.reduceLT, Nat.reduceEqDiff, Nat.zero_add, Nat.add_zero, Nat.le_refl, Nat.zero_le, true_and, and_true, true_or, or_true, false_or, or_false, reduceIte, hc2.a2, e3, bit_z (u + 1) hu8 (s / 3) hs3, hc2.p2_6]
          refine ⟨by decide, fun z => ?_, fun z => ?_⟩
          · refine k69 c2 hF2 hO2 (fun j s' hj h1 h2 h3 h4 => ?_)
            rcases Nat.lt_or_ge j i with y | y
            · exact hI j s' y h1 h2 h3 h4
            · rw [show j = i by omega] at h3
              rw [hsame s' h3 h1, z] at h4
              cases h4
          · have hbt : (u + 1).testBit (s / 3) = true := by simpa using z
            refine sp_best hc2 (hP.fr hF2 (fun k i j w => by have := w.1; omega)) wt s2 (s4.fr hF2 (fun i => ⟨fun w => by have := w.1; omega, fun w => by have := w.1; omega⟩)) (by omega) (fun i hi hb => hO2 _ (by have := Nat.two_pow_pos i; omega) (bit_lt (by omega) hi hb)) (fun x hx => ?_)
            have hxb : x < 2 ^ 31 ∧ x / 8 = (VS n fr to wt (lft (u + 1) n) (u + 1) (plS hd to s) (wyS s)).1 := by
              rcases hx with ⟨x1, x2⟩ | ⟨k, y, x1, x2, x3, x4, x5⟩
              · rw [x1, x2]
                exact ⟨by omega, rfl⟩
              · refine ⟨by omega, ?_⟩
                rw [x1, VS_s, x2]
                show x / 8 = y.1
                omega
            have e8 : nI x / (8 : Int32) = nI (x / 8) := pk_div (d := 8) hxb.1 (by omega) (by omega)
            have hix : (u + 1) * 24 + s < 6144 := by omega
            have e24 : nI (u + 1) * (24 : Int32) + nI s = nI ((u + 1) * 24 + s) := by rw [show (24 : Int32) = nI 24 from rfl, pk_mul, nI_add]
            simp only [o_il, o_al, o_gf, o_ic2, o_is, o_ic, o_iid, o_ii, o_if, nth_3, nth_0, lset_4, nth_2, nth_4, nth_1, opS_2, opV_3, opS_3, mV_2_10, al_2, cI_2, hc.a2, ix_2, mV_2_5, hc.p2_5, kd_13, ix_13, hc.l13, cI_13, cw_13, mV_2_6, hc.p2_6, kd_14, ix_14, hc.l14, cI_14, cw_14, cats_nil, cats_cons, rf_s, rf_n, isR_r, isR_n, isR_rf, cat_i, cat_l, cat_r, cat_n, cat_rf, unl_i, unl_l, unl_r, unl_n, unl_j, unl_rf, orf_r, orf_n, orf_rf, rf_null, mA_pm, mL_pm, mP_pm, List.length_cons, List.length_nil, List.cons_append, List.nil_append, Nat.reduceAdd, Nat.reduceLeDiff, Nat.reduceLT, Nat.reduceEqDiff, Nat.zero_add, Nat.add_zero, Nat.le_refl, Nat.zero_le, true_and, and_true, true_or, or_true, false_or, or_false, reduceIte, hc2.a2, e8, e24]
            refine ⟨by decide, ?_⟩
            refine sp_put (n := 6144) (by decide) rfl hc2.l14 (by omega) hix _ ?_
            simp only [o_il, o_al, o_gf, o_ic2, o_is, o_ic, o_iid, o_ii, o_if, nth_3, nth_0, lset_4, nth_2, nth_4, nth_1, opS_2, opV_3, opS_3, mV_2_10, al_2, cI_2, hc.a2, ix_2, mV_2_5, hc.p2_5, kd_13, ix_13, hc.l13, cI_13, cw_13, mV_2_6, hc.p2_6, kd_14, ix_14, hc.l14, cI_14, cw_14, cats_nil, cats_cons, rf_s, rf_n, isR_r, isR_n, isR_rf, cat_i, cat_l, cat_r, cat_n, cat_rf, unl_i, unl_l, unl_r, unl_n, unl_j, unl_rf, orf_r, orf_n, orf_rf, rf_null, mA_pm, mL_pm, mP_pm, List.length_cons, List.length_nil, List.cons_append, List.nil_append, Nat.reduceAdd, Nat.reduceLeDiff, Nat.reduceLT, Nat.reduceEqDiff, Nat.zero_add, Nat.add_zero, Nat.le_refl, Nat.zero_le, true_and, and_true, true_or, or_true, false_or, or_false, reduceIte]
            refine k69 _ (hF2.w _ ⟨rfl, rfl⟩) (fun u' h1 h2 s' h3 h4 h5 => ?_) (fun j s' hj h1 h2 h3 h4 => ?_)
            · rw [mI_wI, if_neg (by omega)]
              exact hO2 u' h1 h2 s' h3 h4 h5
            · rw [mI_wI]
              by_cases ess : s' = s
              · rw [if_pos ⟨rfl, by rw [ess], rfl⟩, ess, hxb.2]
              · rw [if_neg (by omega)]
                refine hI j s' ?_ h1 h2 h3 h4
                rcases Nat.lt_or_ge j i with y | y
                · exact y
                · rw [show j = i by omega] at h3
                  exact absurd (hsame s' h3 h1) ess
      apply h9
      simp only [B_X2_solve_9, o_il, o_if, o_ic, o_is, nth_2, lset_3, cats_nil, cats_cons, rf_s, rf_n, isR_r, isR_n, isR_rf, cat_i, cat_l, cat_r, cat_n, cat_rf, unl_i, unl_l, unl_r, unl_n, unl_j, unl_rf, orf_r, orf_n, orf_rf, rf_null, mA_pm, mL_pm, mP_pm, List.length_cons, List.length_nil, List.cons_append, List.nil_append, Nat.reduceAdd, Nat.reduceLeDiff, Nat.reduceLT, Nat.reduceEqDiff, Nat.zero_add, Nat.add_zero, Nat.le_refl, Nat.zero_le, true_and, and_true, true_or, or_true, false_or, or_false, reduceIte]
      refine ⟨fun z => absurd z (by rw [show (0 : Int32) = nI 0 from rfl, nI_le_iff]; omega), fun _ => ?_⟩
      exact inner m 0 c1 _ (by omega) hF hO (fun j s hj => by omega)
  have e0 : ∀ n, n < 9 → (1 : Int32) <<< (nI n &&& 31) - 1 = nI (2 ^ n - 1) := by decide +kernel
  apply h0
  simp only [B_X2_solve_0, o_ic, o_al, o_gf, o_ii, o_is, nth_0, lset_2, mV_2_9, al_2, cI_2, hc.a2, ix_2, cats_nil, cats_cons, rf_s, rf_n, isR_r, isR_n, isR_rf, cat_i, cat_l, cat_r, cat_n, cat_rf, unl_i, unl_l, unl_r, unl_n, unl_j, unl_rf, orf_r, orf_n, orf_rf, rf_null, mA_pm, mL_pm, mP_pm, List.length_cons, List.length_nil, List.cons_append, List.nil_append, Nat.reduceAdd, Nat.reduceLeDiff, Nat.reduceLT, Nat.reduceEqDiff, Nat.zero_add, Nat.add_zero, Nat.le_refl, Nat.zero_le, true_and, and_true, true_or, or_true, false_or, or_false, reduceIte, h29, e0 n (by omega)]
  have := Nat.two_pow_pos n
  exact outer (2 ^ n - 1) c _ _ (by omega) (FRI.rf _ _) (fun u' h1 h2 => by omega)
end ZC6
