/-! The class: a plan's choice -/
def wC : Nat → Nat → Nat → Prop := fun k i j => j = 0 ∧ (k = 15 ∨ (k = 2 ∧ (i = 11 ∨ i = 12)))
theorem STm_RF {c : HP} {n hd : Nat} {fr to : Nat → Nat} {m s : Nat} (h : STm c n hd fr to m) (hs : s < 24) (ho : okS n hd fr to s) : RF c n hd fr to s := by
  obtain ⟨i, i1, i2⟩ := h.2.2.2 s hs ho
  obtain ⟨s', s1, s2, s3, s4⟩ := h.2.2.1 i i1
  rw [i2, nI_eq_iff] at s3
  rw [s3]
  exact s4
theorem RO.fr {w : Nat → Nat → Nat → Prop} {c c1 : HP} {n hd : Nat} {fr to : Nat → Nat} {wt : Bool} {u : Nat} (h : RO c n hd fr to wt u) (g : FRI w c c1) (q : ∀ i, ¬ w 14 i 0) : RO c1 n hd fr to wt u := fun s s1 s2 s3 => by rw [g.I (q _)]; exact h s s1 s2 s3
section ZC8
variable {l : Launch} {D : DD} {d : Nat} {c : HP} {M : MD} {Q : List Value → HP → Prop}
set_option maxHeartbeats 1000000 in
theorem sp_choose (hc : SKF c) {n hd m : Nat} {fr to : Nat → Nat} (hP : PD c n hd fr to) (hT : STm c n hd fr to m) (hR : RF c n hd fr to 24) (hO : ∀ u, 0 < u → u < 2 ^ n → RO c n hd fr to false u) (H : ∀ c', FRI wC c c' → (∀ i, i < n → mI c' 15 i 0 = mI c 8 ((VS n fr to false n 0 hd 1).2.getD i 0) 0) → mI c' 2 11 0 = nI (VS n fr to false n 0 hd 1).1 → mI c' 2 12 0 = nI (wS fr to hd 1 0 (VS n fr to false n 0 hd 1).2) → Q [] (pm c' M)) : K_X2_choose l D (d + 3) [.ref (ob 2 0)] (pm c M) Q := by
  refine m_X2_choose (lsA := [.ref (ob 2 0), jk, jk, jk, jk, jk]) rfl (Nat.le_of_ble_eq_true rfl) ?_
  intro X h0 h17 h117
  have hn := hP.1
  have hPw : ∀ {c1}, FRI wC c c1 → PD c1 n hd fr to := fun g => hP.fr g (fun k i j w => by obtain ⟨-, w⟩ := w; omega)
  have hRs : ∀ s, okS n hd fr to s → RF c n hd fr to s := fun s hs => by
    rcases hs with h | h
    · rw [h]; exact hR
    · exact STm_RF hT h.1 (Or.inr h)
  have loop : ∀ r i u s C W P c1 w4 w5, i + r = n → u < 2 ^ n → lft u n = r → okS n hd fr to s → FRI wC c c1 → P.length = i → (VS n fr to false n 0 hd 1).2 = P ++ (VS n fr to false r u (plS hd to s) (wyS s)).2 → C + (VS n fr to false r u (plS hd to s) (wyS s)).1 = (VS n fr to false n 0 hd 1).1 → W + wS fr to (plS hd to s) (wyS s) C (VS n fr to false r u (plS hd to s) (wyS s)).2 = wS fr to hd 1 0 (VS n fr to false n 0 hd 1).2 → mI c1 2 11 0 = nI C → mI c1 2 12 0 = nI W → (∀ j, j < i → mI c1 15 j 0 = mI c 8 (P.getD j 0) 0) → X 17 [.ref (ob 2 0), .int (nI u), .int (nI s), .int (nI i), w4, w5] [] (pm c1 M) 0 0 := by
    intro r
    induction r with
    | zero =>
      intro i u s C W P c1 w4 w5 hi hu hl hs hF hPl e1 e2 e3 e4 e5 e6
      obtain rfl : i = n := by omega
      have hc1 := hF.sk hc
      apply h17
      simp only [B_X2_choose_17, o_il, o_al, o_gf, o_ic2, o_ic, o_iid, o_is, o_ii, o_dup, o_pI, o_inc, nth_3, nth_0, nth_1, nth_2, lset_4, nth_4, lset_5, nth_5, lset_1, lset_2, lset_3, opV_3, opS_2, opS_3, mV_2_9, al_2, cI_2, hc.a2, ix_2, mV_2_7, hc.p2_7, kd_15, ix_15, hc.l15, cI_15, cw_15, mV_2_0, hc.p2_0, kd_8, ix_8, hc.l8, cI_8, cw_8, mV_2_11, mV_2_3, hc.p2_3, kd_11, ix_11, hc.l11, cI_11, cw_11, mV_2_12, mV_2_4, hc.p2_4, kd_12, ix_12, hc.l12, cI_12, cw_12, cw_2, cats_nil, cats_cons, rf_s, rf_n, isR_r, isR_n, isR_rf, cat_i, cat_l, cat_r, cat_n, cat_rf, unl_i, unl_l, unl_r, unl_n, unl_j, unl_rf, orf_r, orf_n, orf_rf, rf_null, mA_pm, mL_pm, mP_pm, List.length_cons, List.length_nil, List.cons_append, List.nil_append, Nat.reduceAdd, Nat.reduceLeDiff, Nat.reduceLT, Nat.reduceEqDiff, Nat.zero_add, Nat.add_zero, Nat.le_refl, Nat.zero_le, true_and, and_true, true_or, or_true, false_or, or_false, reduceIte, hc1.a2, (hPw hF).2.2.1]
      refine ⟨fun _ => ?_, fun z => absurd (nI_le (by omega) (by omega)) z⟩
      apply h117
      simp only [B_X2_choose_117, o_vret, cats_nil, cats_cons, rf_s, rf_n, isR_r, isR_n, isR_rf, cat_i, cat_l, cat_r, cat_n, cat_rf, unl_i, unl_l, unl_r, unl_n, unl_j, unl_rf, orf_r, orf_n, orf_rf, rf_null, mA_pm, mL_pm, mP_pm, List.length_cons, List.length_nil, List.cons_append, List.nil_append, Nat.reduceAdd, Nat.reduceLeDiff, Nat.reduceLT, Nat.reduceEqDiff, Nat.zero_add, Nat.add_zero, Nat.le_refl, Nat.zero_le, true_and, and_true, true_or, or_true, false_or, or_false, reduceIte]
      have e1' : (VS i fr to false i 0 hd 1).2 = P := by rw [e1]; exact List.append_nil P
      refine H c1 hF (fun j hj => ?_) (by rw [e4, ← e2]; rfl) (by rw [e5, ← e3]; rfl)
      rw [e1']
      exact e6 j hj
    | succ r ih =>
      intro i u s C W P c1 w4 w5 hi hu hl hs hF hPl e1 e2 e3 e4 e5 e6
      have hc1 := hF.sk hc
      have hu8 : u < 256 := Nat.lt_of_lt_of_le hu (by have := Nat.pow_le_pow_right (show 0 < 2 by omega) hn; omega)
      apply h17
      simp only [B_X2_choose_17, o_il, o_al, o_gf, o_ic2, o_ic, o_iid, o_is, o_ii, o_dup, o_pI, o_inc, nth_3, nth_0, nth_1, nth_2, lset_4, nth_4, lset_5, nth_5, lset_1, lset_2, lset_3, opV_3, opS_2, opS_3, mV_2_9, al_2, cI_2, hc.a2, ix_2, mV_2_7, hc.p2_7, kd_15, ix_15, hc.l15, cI_15, cw_15, mV_2_0, hc.p2_0, kd_8, ix_8, hc.l8, cI_8, cw_8, mV_2_11, mV_2_3, hc.p2_3, kd_11, ix_11, hc.l11, cI_11, cw_11, mV_2_12, mV_2_4, hc.p2_4, kd_12, ix_12, hc.l12, cI_12, cw_12, cw_2, cats_nil, cats_cons, rf_s, rf_n, isR_r, isR_n, isR_rf, cat_i, cat_l, cat_r, cat_n, cat_rf, unl_i, unl_l, unl_r, unl_n, unl_j, unl_rf, orf_r, orf_n, orf_rf, rf_null, mA_pm, mL_pm, mP_pm, List.length_cons, List.length_nil, List.cons_append, List.nil_append, Nat.reduceAdd, Nat.reduceLeDiff, Nat.reduceLT, Nat.reduceEqDiff, Nat.zero_add, Nat.add_zero, Nat.le_refl, Nat.zero_le, true_and, and_true, true_or, or_true, false_or, or_false, reduceIte, hc1.a2, (hPw hF).2.2.1, hc1.p2_7, hc1.p2_0, hc1.p2_3, hc1.p2_4]
      refine ⟨fun z => absurd z (by rw [nI_le_iff]; omega), fun _ => ?_⟩
      refine sp_best hc1 (hPw hF) false hs ((hRs s hs).fr hF (fun i => ⟨fun w => by have := w.2; omega, fun w => by have := w.2; omega⟩)) hu (fun i hi hb => (hO _ (by have := Nat.two_pow_pos i; omega) (bit_lt hu hi hb)).fr hF (fun i w => by have := w.2; omega)) (fun x hx => ?_)
      rcases hx with ⟨x1, -⟩ | ⟨k, y, x1, x2, x3, x4, x5⟩
      · omega
      · obtain rfl : k = r := by omega
        obtain ⟨j, hj, hb, hy⟩ := cnd_hd x2
        have hVS : VS n fr to false (k + 1) u (plS hd to s) (wyS s) = y := by rw [VS_s, x2]; rfl
        rw [hVS] at e1 e2 e3
        have hy1 : y.1 = cN (fr j) (to j) (plS hd to s) (wyS s) + (VS n fr to false k (u + 2 ^ j) (to j) (wyN (fr j) (to j) (plS hd to s) (wyS s))).1 := by
          rw [hy]
          show 1 * _ + _ = _
          rw [Nat.one_mul]
        have hy2 : y.2 = j :: (VS n fr to false k (u + 2 ^ j) (to j) (wyN (fr j) (to j) (plS hd to s) (wyS s))).2 := by rw [hy]
        have hyh : y.2.headD 0 = j := by rw [hy2]; rfl
        rw [hyh] at x3 x5
        have hj8 : j < 8 := by omega
        have hi8 : i < 8 := by omega
        obtain ⟨o1, o2⟩ := bit_o u hu8 j hj8 hb
        have e8 : nI s * (8 : Int32) + nI j = nI (s * 8 + j) := by rw [show (8 : Int32) = nI 8 from rfl, pk_mul, nI_add]
        have er : nI x - nI x / (8 : Int32) * 8 = nI j := by
          rw [show (8 : Int32) = nI 8 from rfl, pk_rem (by omega) (by omega) (by omega), x3]
          congr 1
          omega
        have hs24 : s ≤ 24 := by rcases hs with h | h <;> omega
        have hsp : s * 8 + j < 200 := by omega
        obtain ⟨r1, r2⟩ := (hRs s hs) j hj
        obtain ⟨q, hq⟩ : ∃ q, q = j * 3 + wyN (fr j) (to j) (plS hd to s) (wyS s) := ⟨_, rfl⟩
        obtain ⟨n1, n2, n3⟩ := okS_next hn hs hj (hP.2.2.2.2 j hj).2.2.1
        rw [← hq] at n1 n2 n3 r2
        have hwl := wyN_lt (f := fr j) (g := to j) (h := plS hd to s) (v := wyS s) (wyS_lt s)
        have epl : plS hd to q = to j := by
          show (if q = 24 then hd else to (q / 3)) = _
          rw [if_neg (by omega), n2]
        have ewy : wyS q = wyN (fr j) (to j) (plS hd to s) (wyS s) := by
          show (if q = 24 then 1 else q % 3) = _
          rw [if_neg (by omega), n3]
        have g11 : ∀ i, mI c1 11 i 0 = mI c 11 i 0 := fun i => hF.I (fun w => by have := w.2; omega)
        have g12 : ∀ i, mI c1 12 i 0 = mI c 12 i 0 := fun i => hF.I (fun w => by have := w.2; omega)
        have g8 : mI c1 8 j 0 = mI c 8 j 0 := hF.I (fun w => by have := w.2; omega)
        simp only [o_il, o_al, o_gf, o_ic2, o_ic, o_iid, o_is, o_ii, o_dup, o_pI, o_inc, nth_3, nth_0, nth_1, nth_2, lset_4, nth_4, lset_5, nth_5, lset_1, lset_2, lset_3, opV_3, opS_2, opS_3, mV_2_9, al_2, cI_2, hc.a2, ix_2, mV_2_7, hc.p2_7, kd_15, ix_15, hc.l15, cI_15, cw_15, mV_2_0, hc.p2_0, kd_8, ix_8, hc.l8, cI_8, cw_8, mV_2_11, mV_2_3, hc.p2_3, kd_11, ix_11, hc.l11, cI_11, cw_11, mV_2_12, mV_2_4, hc.p2_4, kd_12, ix_12, hc.l12, cI_12, cw_12, cw_2, cats_nil, cats_cons, rf_s, rf_n, isR_r, isR_n, isR_rf, cat_i, cat_l, cat_r, cat_n, cat_rf, unl_i, unl_l, unl_r, unl_n, unl_j, unl_rf, orf_r, orf_n, orf_rf, rf_null, mA_pm, mL_pm, mP_pm, List.length_cons, List.length_nil, List.cons_append, List.nil_append, Nat.reduceAdd, Nat.reduceLeDiff, Nat.reduceLT, Nat.reduceEqDiff, Nat.zero_add, Nat.add_zero, Nat.le_refl, Nat.zero_le, true_and, and_true, true_or, or_true, false_or, or_false, reduceIte, hc1.a2, hc1.p2_7, hc1.p2_0, er, e8, hc1.p2_3, hc1.p2_4]
        refine ⟨by decide, ?_⟩
        refine sp_at (n := 8) (by decide) rfl hc1.l8 (by omega) hj8 ?_
        rw [g8]
        simp only [o_il, o_al, o_gf, o_ic2, o_ic, o_iid, o_is, o_ii, o_dup, o_pI, o_inc, nth_3, nth_0, nth_1, nth_2, lset_4, nth_4, lset_5, nth_5, lset_1, lset_2, lset_3, opV_3, opS_2, opS_3, mV_2_9, al_2, cI_2, hc.a2, ix_2, mV_2_7, hc.p2_7, kd_15, ix_15, hc.l15, cI_15, cw_15, mV_2_0, hc.p2_0, kd_8, ix_8, hc.l8, cI_8, cw_8, mV_2_11, mV_2_3, hc.p2_3, kd_11, ix_11, hc.l11, cI_11, cw_11, mV_2_12, mV_2_4, hc.p2_4, kd_12, ix_12, hc.l12, cI_12, cw_12, cw_2, cats_nil, cats_cons, rf_s, rf_n, isR_r, isR_n, isR_rf, cat_i, cat_l, cat_r, cat_n, cat_rf, unl_i, unl_l, unl_r, unl_n, unl_j, unl_rf, orf_r, orf_n, orf_rf, rf_null, mA_pm, mL_pm, mP_pm, List.length_cons, List.length_nil, List.cons_append, List.nil_append, Nat.reduceAdd, Nat.reduceLeDiff, Nat.reduceLT, Nat.reduceEqDiff, Nat.zero_add, Nat.add_zero, Nat.le_refl, Nat.zero_le, true_and, and_true, true_or, or_true, false_or, or_false, reduceIte]
        refine sp_put (n := 8) (by decide) rfl hc1.l15 (by omega) hi8 _ ?_
        simp only [o_il, o_al, o_gf, o_ic2, o_ic, o_iid, o_is, o_ii, o_dup, o_pI, o_inc, nth_3, nth_0, nth_1, nth_2, lset_4, nth_4, lset_5, nth_5, lset_1, lset_2, lset_3, opV_3, opS_2, opS_3, mV_2_9, al_2, cI_2, hc.a2, ix_2, mV_2_7, hc.p2_7, kd_15, ix_15, hc.l15, cI_15, cw_15, mV_2_0, hc.p2_0, kd_8, ix_8, hc.l8, cI_8, cw_8, mV_2_11, mV_2_3, hc.p2_3, kd_11, ix_11, hc.l11, cI_11, cw_11, mV_2_12, mV_2_4, hc.p2_4, kd_12, ix_12, hc.l12, cI_12, cw_12, cw_2, cats_nil, cats_cons, rf_s, rf_n, isR_r, isR_n, isR_rf, cat_i, cat_l, cat_r, cat_n, cat_rf, unl_i, unl_l, unl_r, unl_n, unl_j, unl_rf, orf_r, orf_n, orf_rf, rf_null, mA_pm, mL_pm, mP_pm, List.length_cons, List.length_nil, List.cons_append, List.nil_append, Nat.reduceAdd, Nat.reduceLeDiff, Nat.reduceLT, Nat.reduceEqDiff, Nat.zero_add, Nat.add_zero, Nat.le_refl, Nat.zero_le, true_and, and_true, true_or, or_true, false_or, or_false, reduceIte, mA_wI, mP_wI, mI_wI, hc1.a2, hc1.p2_3, e4, false_and]
        refine sp_at (n := 200) (by decide) rfl hc1.l11 (by omega) hsp ?_
        simp only [mI_wI, Nat.reduceEqDiff, false_and, reduceIte, g11, r1]
        simp only [o_il, o_al, o_gf, o_ic2, o_ic, o_iid, o_is, o_ii, o_dup, o_pI, o_inc, nth_3, nth_0, nth_1, nth_2, lset_4, nth_4, lset_5, nth_5, lset_1, lset_2, lset_3, opV_3, opS_2, opS_3, mV_2_9, al_2, cI_2, hc.a2, ix_2, mV_2_7, hc.p2_7, kd_15, ix_15, hc.l15, cI_15, cw_15, mV_2_0, hc.p2_0, kd_8, ix_8, hc.l8, cI_8, cw_8, mV_2_11, mV_2_3, hc.p2_3, kd_11, ix_11, hc.l11, cI_11, cw_11, mV_2_12, mV_2_4, hc.p2_4, kd_12, ix_12, hc.l12, cI_12, cw_12, cw_2, cats_nil, cats_cons, rf_s, rf_n, isR_r, isR_n, isR_rf, cat_i, cat_l, cat_r, cat_n, cat_rf, unl_i, unl_l, unl_r, unl_n, unl_j, unl_rf, orf_r, orf_n, orf_rf, rf_null, mA_pm, mL_pm, mP_pm, List.length_cons, List.length_nil, List.cons_append, List.nil_append, Nat.reduceAdd, Nat.reduceLeDiff, Nat.reduceLT, Nat.reduceEqDiff, Nat.zero_add, Nat.add_zero, Nat.le_refl, Nat.zero_le, true_and, and_true, true_or, or_true, false_or, or_false, reduceIte, mA_wI, mP_wI, mI_wI, hc1.a2, hc1.p2_4, e4, e5, false_and, and_false, nI_add, o1]
        refine sp_at (n := 200) (by decide) rfl hc1.l12 (by omega) hsp ?_
        simp only [mI_wI, Nat.reduceEqDiff, false_and, reduceIte, g12, r2]
        simp only [o_il, o_al, o_gf, o_ic2, o_ic, o_iid, o_is, o_ii, o_dup, o_pI, o_inc, nth_3, nth_0, nth_1, nth_2, lset_4, nth_4, lset_5, nth_5, lset_1, lset_2, lset_3, opV_3, opS_2, opS_3, mV_2_9, al_2, cI_2, hc.a2, ix_2, mV_2_7, hc.p2_7, kd_15, ix_15, hc.l15, cI_15, cw_15, mV_2_0, hc.p2_0, kd_8, ix_8, hc.l8, cI_8, cw_8, mV_2_11, mV_2_3, hc.p2_3, kd_11, ix_11, hc.l11, cI_11, cw_11, mV_2_12, mV_2_4, hc.p2_4, kd_12, ix_12, hc.l12, cI_12, cw_12, cw_2, cats_nil, cats_cons, rf_s, rf_n, isR_r, isR_n, isR_rf, cat_i, cat_l, cat_r, cat_n, cat_rf, unl_i, unl_l, unl_r, unl_n, unl_j, unl_rf, orf_r, orf_n, orf_rf, rf_null, mA_pm, mL_pm, mP_pm, List.length_cons, List.length_nil, List.cons_append, List.nil_append, Nat.reduceAdd, Nat.reduceLeDiff, Nat.reduceLT, Nat.reduceEqDiff, Nat.zero_add, Nat.add_zero, Nat.le_refl, Nat.zero_le, true_and, and_true, true_or, or_true, false_or, or_false, reduceIte, nI_1]
        refine ih (i + 1) (u + 2 ^ j) q (C + cN (fr j) (to j) (plS hd to s) (wyS s)) (W + (C + cN (fr j) (to j) (plS hd to s) (wyS s))) (P ++ [j]) _ _ _ (by omega) (bit_lt hu hj hb) ?_ n1 (((hF.w _ ⟨rfl, by omega⟩).w _ ⟨rfl, by omega⟩).w _ ⟨rfl, by omega⟩) (by simp; exact hPl) ?_ ?_ ?_ ?_ ?_ (fun j' hj' => ?_)
        · have := lft_s hb (n := n)
          rw [if_pos hj] at this
          omega
        · rw [e1, hy2, epl, ewy, List.append_assoc]
          rfl
        · rw [← e2, hy1, epl, ewy]
          omega
        · rw [← e3, hy2, epl, ewy]
          show _ = W + (C + cN (fr j) (to j) (plS hd to s) (wyS s) + wS fr to (to j) (wyN (fr j) (to j) (plS hd to s) (wyS s)) (C + cN (fr j) (to j) (plS hd to s) (wyS s)) _)
          omega
        · simp only [mI_wI, Nat.reduceEqDiff, false_and, and_false, true_and, and_true, reduceIte]
        · simp only [mI_wI, Nat.reduceEqDiff, false_and, and_false, true_and, and_true, reduceIte]
        · simp only [mI_wI, Nat.reduceEqDiff, false_and, and_false, true_and, and_true, reduceIte]
          by_cases e : j' = i
          · rw [if_pos e, e, List.getD_eq_getElem?_getD, List.getElem?_append_right (by omega)]
            simp [hPl]
          · rw [if_neg e, e6 j' (by omega), List.getD_eq_getElem?_getD, List.getD_eq_getElem?_getD, List.getElem?_append_left (by omega)]
  apply h0
  simp only [B_X2_choose_0, o_ic, o_is, o_al, o_pI, lset_1, lset_2, nth_0, lset_3, al_2, ix_2, cw_2, hc.a2, cats_nil, cats_cons, rf_s, rf_n, isR_r, isR_n, isR_rf, cat_i, cat_l, cat_r, cat_n, cat_rf, unl_i, unl_l, unl_r, unl_n, unl_j, unl_rf, orf_r, orf_n, orf_rf, rf_null, mA_pm, mL_pm, mP_pm, List.length_cons, List.length_nil, List.cons_append, List.nil_append, Nat.reduceAdd, Nat.reduceLeDiff, Nat.reduceLT, Nat.reduceEqDiff, Nat.zero_add, Nat.add_zero, Nat.le_refl, Nat.zero_le, true_and, and_true, true_or, or_true, false_or, or_false, reduceIte, mA_wI]
  have := Nat.two_pow_pos n
  exact loop n 0 0 24 0 0 [] _ _ _ (by omega) (by omega) (lft_all n) (Or.inl rfl) (((FRI.rf wC c).w _ ⟨rfl, by omega⟩).w _ ⟨rfl, by omega⟩) rfl rfl (Nat.zero_add _) (Nat.zero_add _) (by simp only [mI_wI, Nat.reduceEqDiff, false_and, and_false, true_and, and_true, reduceIte]; rfl) (by simp only [mI_wI, Nat.reduceEqDiff, false_and, and_false, true_and, and_true, reduceIte]; rfl) (fun j hj => by omega)
end ZC8
