/-! The class: the shelf is laid -/
def LDF (c : HP) (n : Nat) (sz ct : Nat → Nat) : Prop := mJ c 4 6 0 = lN (LV n sz ct n 0).1 ∧ ∀ i, i < n → mI c 18 i 0 = nI (stO sz (LV n sz ct n 0).2 0 i)
section ZC11
variable {l : Launch} {D : DD} {d : Nat} {c : HP} {M : MD} {Q : List Value → HP → Prop}
set_option maxHeartbeats 1000000 in
theorem sp_lay (hc : SKF c) {n : Nat} {sz ct : Nat → Nat} (hS : SHD c n sz ct) (hL : (mI c 4 7 0 = 1 ∧ LDF c n sz ct) ∨ mI c 4 7 0 = 0) (H : ∀ c', FRJ wY c c' → mI c' 4 7 0 = 1 → LDF c' n sz ct → Q [] (pm c' M)) : K_X4_lay l D (d + 4) [.ref (ob 4 0)] (pm c M) Q := by
  refine m_X4_lay (lsA := [.ref (ob 4 0), jk, jk, jk, jk]) rfl (Nat.le_of_ble_eq_true rfl) ?_
  intro X h0 h8 h25 h50 h68 h123
  have hn := hS.1
  have hp8 : 2 ^ n ≤ 256 := by have := Nat.pow_le_pow_right (show 0 < 2 by omega) hn; omega
  have hp0 := Nat.two_pow_pos n
  have hsz : ∀ i, i < n → sz i ≤ 50 := fun i hi => (hS.2.2.2 i hi).2.1
  have choose : ∀ r i u P c1 w4, i + r = n → u < 2 ^ n → lft u n = r → (∀ u, u < 2 ^ n → RS c1 n sz ct u) → FRJ wY c c1 → mJ c1 4 6 0 = lN (LV n sz ct n 0).1 → P.length = i → (LV n sz ct n 0).2 = P ++ (LV n sz ct r u).2 → (∀ j ∈ P, j < n ∧ u.testBit j = true) → (∀ j, j < n → u.testBit j = true → mI c1 18 j 0 = nI (stO sz P 0 j)) → X 68 [.ref (ob 4 0), .int (nI u), .int (nI (spL sz P)), .int (nI i), w4] [] (pm c1 M) 0 0 := by
    intro r
    induction r with
    | zero =>
      intro i u P c1 w4 hi hu hl hO hF hW hPl e1 e2 e3
      obtain rfl : i = n := by omega
      have hc1 := hF.sk hc
      apply h68
      simp only [B_X4_lay_68, o_il, o_al, o_gf, o_ic2, o_lc, o_jjd, o_l2i, o_is, o_ii, o_ic, o_inc, nth_3, nth_0, nth_1, lset_4, nth_4, nth_2, lset_2, lset_1, lset_3, opV_1, opS_3, opS_2, mV_4_4, al_4, cI_4, hc.a4, ix_4, mV_4_2, hc.p4_2, kd_18, ix_18, hc.l18, cI_18, cw_18, cJ_18, cv_18, mV_4_0, hc.p4_0, kd_16, ix_16, hc.l16, cI_16, cw_16, cJ_16, cv_16, cats_nil, cats_cons, rf_s, rf_n, isR_r, isR_n, isR_rf, cat_i, cat_l, cat_r, cat_n, cat_rf, unl_i, unl_l, unl_r, unl_n, unl_j, unl_rf, orf_r, orf_n, orf_rf, rf_null, mA_pm, mL_pm, mP_pm, List.length_cons, List.length_nil, List.cons_append, List.nil_append, Nat.reduceAdd, Nat.reduceLeDiff, Nat.reduceLT, Nat.reduceEqDiff, Nat.zero_add, Nat.add_zero, Nat.le_refl, Nat.zero_le, true_and, and_true, true_or, or_true, false_or, or_false, reduceIte, hc1.a4, (hS.fr hF).2.1]
      refine ⟨fun _ => ?_, fun z => absurd (nI_le (by omega) (by omega)) z⟩
      apply h123
      simp only [B_X4_lay_123, o_al, o_ic, o_pZ, o_vret, nth_0, al_4, ix_4, cw_4, hc.a4, cats_nil, cats_cons, rf_s, rf_n, isR_r, isR_n, isR_rf, cat_i, cat_l, cat_r, cat_n, cat_rf, unl_i, unl_l, unl_r, unl_n, unl_j, unl_rf, orf_r, orf_n, orf_rf, rf_null, mA_pm, mL_pm, mP_pm, List.length_cons, List.length_nil, List.cons_append, List.nil_append, Nat.reduceAdd, Nat.reduceLeDiff, Nat.reduceLT, Nat.reduceEqDiff, Nat.zero_add, Nat.add_zero, Nat.le_refl, Nat.zero_le, true_and, and_true, true_or, or_true, false_or, or_false, reduceIte, hc1.a4]
      have e1' : (LV i sz ct i 0).2 = P := by rw [e1]; exact List.append_nil P
      refine H _ (hF.w _ ⟨rfl, by omega⟩) (by rw [mI_wI, if_pos ⟨rfl, rfl, rfl⟩]) ⟨by rw [mJ_wI]; exact hW, fun j hj => ?_⟩
      rw [mI_wI, if_neg (by omega), e1']
      exact e3 j hj (lft_bits hl j hj)
    | succ r ih =>
      intro i u P c1 w4 hi hu hl hO hF hW hPl e1 e2 e3
      have hc1 := hF.sk hc
      have hu8 : u < 256 := by omega
      apply h68
      simp only [B_X4_lay_68, o_il, o_al, o_gf, o_ic2, o_lc, o_jjd, o_l2i, o_is, o_ii, o_ic, o_inc, nth_3, nth_0, nth_1, lset_4, nth_4, nth_2, lset_2, lset_1, lset_3, opV_1, opS_3, opS_2, mV_4_4, al_4, cI_4, hc.a4, ix_4, mV_4_2, hc.p4_2, kd_18, ix_18, hc.l18, cI_18, cw_18, cJ_18, cv_18, mV_4_0, hc.p4_0, kd_16, ix_16, hc.l16, cI_16, cw_16, cJ_16, cv_16, cats_nil, cats_cons, rf_s, rf_n, isR_r, isR_n, isR_rf, cat_i, cat_l, cat_r, cat_n, cat_rf, unl_i, unl_l, unl_r, unl_n, unl_j, unl_rf, orf_r, orf_n, orf_rf, rf_null, mA_pm, mL_pm, mP_pm, List.length_cons, List.length_nil, List.cons_append, List.nil_append, Nat.reduceAdd, Nat.reduceLeDiff, Nat.reduceLT, Nat.reduceEqDiff, Nat.zero_add, Nat.add_zero, Nat.le_refl, Nat.zero_le, true_and, and_true, true_or, or_true, false_or, or_false, reduceIte, hc1.a4, (hS.fr hF).2.1]
      refine ⟨fun z => absurd z (by rw [nI_le_iff]; omega), fun _ => ?_⟩
      refine sp_best4 hc1 (hS.fr hF) hu (fun i hi hb => hO _ (bit_lt hu hi hb)) (fun x hx => ?_)
      rcases hx with ⟨x1, -⟩ | ⟨k, y, x1, x2, x3, x4, x5⟩
      · omega
      · obtain rfl : k = r := by omega
        obtain ⟨j, hj, hb, hy⟩ := cnl_hd x2
        have hVS : LV n sz ct (k + 1) u = y := by rw [LV_s, x2]; rfl
        rw [hVS] at e1
        have hy2 : y.2 = j :: (LV n sz ct k (u + 2 ^ j)).2 := by rw [hy]
        have hyh : y.2.headD 0 = j := by rw [hy2]; rfl
        rw [hyh] at x3 x5
        have hj8 : j < 8 := by omega
        obtain ⟨o1, o2⟩ := bit_o u hu8 j hj8 hb
        have er : lN x - lN x / (8 : Int64) * 8 = lN j := by
          rw [show (8 : Int64) = lN 8 from rfl, pk_lRem (by omega) (by omega) (by omega), x3]
          congr 1
          omega
        have hjp : j ∉ P := fun z => by have := (e2 j z).2; rw [hb] at this; cases this
        simp only [o_il, o_al, o_gf, o_ic2, o_lc, o_jjd, o_l2i, o_is, o_ii, o_ic, o_inc, nth_3, nth_0, nth_1, lset_4, nth_4, nth_2, lset_2, lset_1, lset_3, opV_1, opS_3, opS_2, mV_4_4, al_4, cI_4, hc.a4, ix_4, mV_4_2, hc.p4_2, kd_18, ix_18, hc.l18, cI_18, cw_18, cJ_18, cv_18, mV_4_0, hc.p4_0, kd_16, ix_16, hc.l16, cI_16, cw_16, cJ_16, cv_16, cats_nil, cats_cons, rf_s, rf_n, isR_r, isR_n, isR_rf, cat_i, cat_l, cat_r, cat_n, cat_rf, unl_i, unl_l, unl_r, unl_n, unl_j, unl_rf, orf_r, orf_n, orf_rf, rf_null, mA_pm, mL_pm, mP_pm, List.length_cons, List.length_nil, List.cons_append, List.nil_append, Nat.reduceAdd, Nat.reduceLeDiff, Nat.reduceLT, Nat.reduceEqDiff, Nat.zero_add, Nat.add_zero, Nat.le_refl, Nat.zero_le, true_and, and_true, true_or, or_true, false_or, or_false, reduceIte, hc1.a4, hc1.p4_2, hc1.p4_0, er, lN_i]
        refine ⟨by decide, ?_⟩
        refine sp_put (n := 8) (by decide) rfl hc1.l18 (by omega) hj8 _ ?_
        simp only [o_il, o_al, o_gf, o_ic2, o_lc, o_jjd, o_l2i, o_is, o_ii, o_ic, o_inc, nth_3, nth_0, nth_1, lset_4, nth_4, nth_2, lset_2, lset_1, lset_3, opV_1, opS_3, opS_2, mV_4_4, al_4, cI_4, hc.a4, ix_4, mV_4_2, hc.p4_2, kd_18, ix_18, hc.l18, cI_18, cw_18, cJ_18, cv_18, mV_4_0, hc.p4_0, kd_16, ix_16, hc.l16, cI_16, cw_16, cJ_16, cv_16, cats_nil, cats_cons, rf_s, rf_n, isR_r, isR_n, isR_rf, cat_i, cat_l, cat_r, cat_n, cat_rf, unl_i, unl_l, unl_r, unl_n, unl_j, unl_rf, orf_r, orf_n, orf_rf, rf_null, mA_pm, mL_pm, mP_pm, List.length_cons, List.length_nil, List.cons_append, List.nil_append, Nat.reduceAdd, Nat.reduceLeDiff, Nat.reduceLT, Nat.reduceEqDiff, Nat.zero_add, Nat.add_zero, Nat.le_refl, Nat.zero_le, true_and, and_true, true_or, or_true, false_or, or_false, reduceIte, mA_wI, mP_wI, hc1.a4, hc1.p4_0]
        have g16 : mI c1 16 j 0 = nI (sz j) := ((hS.fr hF).2.2.2 j hj).1
        refine sp_at (n := 8) (by decide) rfl (by rw [mL_wI]; exact hc1.l16) (by omega) hj8 ?_
        simp only [mI_wI, Nat.reduceEqDiff, false_and, reduceIte, g16]
        simp only [o_il, o_al, o_gf, o_ic2, o_lc, o_jjd, o_l2i, o_is, o_ii, o_ic, o_inc, nth_3, nth_0, nth_1, lset_4, nth_4, nth_2, lset_2, lset_1, lset_3, opV_1, opS_3, opS_2, mV_4_4, al_4, cI_4, hc.a4, ix_4, mV_4_2, hc.p4_2, kd_18, ix_18, hc.l18, cI_18, cw_18, cJ_18, cv_18, mV_4_0, hc.p4_0, kd_16, ix_16, hc.l16, cI_16, cw_16, cJ_16, cv_16, cats_nil, cats_cons, rf_s, rf_n, isR_r, isR_n, isR_rf, cat_i, cat_l, cat_r, cat_n, cat_rf, unl_i, unl_l, unl_r, unl_n, unl_j, unl_rf, orf_r, orf_n, orf_rf, rf_null, mA_pm, mL_pm, mP_pm, List.length_cons, List.length_nil, List.cons_append, List.nil_append, Nat.reduceAdd, Nat.reduceLeDiff, Nat.reduceLT, Nat.reduceEqDiff, Nat.zero_add, Nat.add_zero, Nat.le_refl, Nat.zero_le, true_and, and_true, true_or, or_true, false_or, or_false, reduceIte, nI_add, nI_1, o1]
        rw [← spL_app]
        refine ih (i + 1) (u + 2 ^ j) (P ++ [j]) _ _ (by omega) (bit_lt hu hj hb) ?_ (fun u' h => hO u' h) (hF.w _ ⟨rfl, by omega⟩) hW (by simp; exact hPl) ?_ (fun j' hj' => ?_) (fun j' hj' hbj => ?_)
        · have := lft_s hb (n := n)
          rw [if_pos hj] at this
          omega
        · rw [e1, hy2, List.append_assoc]
          rfl
        · rw [bit_add hb]
          rcases List.mem_append.mp hj' with z | z
          · exact ⟨(e2 j' z).1, by rw [(e2 j' z).2]; rfl⟩
          · rw [List.mem_singleton.mp z]
            exact ⟨hj, by simp⟩
        · rw [mI_wI]
          by_cases e : j' = j
          · rw [if_pos ⟨rfl, e, rfl⟩, e, (stO_app P 0 j).2 hjp, Nat.zero_add]
          · rw [if_neg (fun z => e z.2.1), (stO_app P 0 j').1 e]
            refine e3 j' hj' ?_
            rw [bit_add hb] at hbj
            cases hq : u.testBit j' with
            | true => rfl
            | false =>
              rw [hq] at hbj
              simp at hbj
              exact absurd hbj.symm e
  have k50 : ∀ c1 w1 w2 w3 w4, FRJ wY c c1 → (∀ u, u < 2 ^ n → RS c1 n sz ct u) → X 50 [.ref (ob 4 0), w1, w2, w3, w4] [] (pm c1 M) 0 0 := by
    intro c1 w1 w2 w3 w4 hF hO
    have hc1 := hF.sk hc
    have h0' := hO 0 hp0
    unfold RS at h0'
    rw [lft_all n] at h0'
    apply h50
    simp only [B_X4_lay_50, o_al, o_gf, o_ic, o_pJ, o_is, nth_0, lset_1, lset_2, lset_3, opS_2, mV_4_3, al_4, hc.p4_3, kd_88, ix_88, hc.l88, cI_88, cw_88, cJ_88, cv_88, hc.a4, ix_4, cv_4, cats_nil, cats_cons, rf_s, rf_n, isR_r, isR_n, isR_rf, cat_i, cat_l, cat_r, cat_n, cat_rf, unl_i, unl_l, unl_r, unl_n, unl_j, unl_rf, orf_r, orf_n, orf_rf, rf_null, mA_pm, mL_pm, mP_pm, List.length_cons, List.length_nil, List.cons_append, List.nil_append, Nat.reduceAdd, Nat.reduceLeDiff, Nat.reduceLT, Nat.reduceEqDiff, Nat.zero_add, Nat.add_zero, Nat.le_refl, Nat.zero_le, true_and, and_true, true_or, or_true, false_or, or_false, reduceIte, hc1.a4, hc1.p4_3]
    refine sp_at_ (n := 256) (i := 0) (by decide) rfl hc1.l88 (by omega) (by omega) ?_
    rw [h0']
    simp only [o_al, o_gf, o_ic, o_pJ, o_is, nth_0, lset_1, lset_2, lset_3, opS_2, mV_4_3, al_4, hc.p4_3, kd_88, ix_88, hc.l88, cI_88, cw_88, cJ_88, cv_88, hc.a4, ix_4, cv_4, cats_nil, cats_cons, rf_s, rf_n, isR_r, isR_n, isR_rf, cat_i, cat_l, cat_r, cat_n, cat_rf, unl_i, unl_l, unl_r, unl_n, unl_j, unl_rf, orf_r, orf_n, orf_rf, rf_null, mA_pm, mL_pm, mP_pm, List.length_cons, List.length_nil, List.cons_append, List.nil_append, Nat.reduceAdd, Nat.reduceLeDiff, Nat.reduceLT, Nat.reduceEqDiff, Nat.zero_add, Nat.add_zero, Nat.le_refl, Nat.zero_le, true_and, and_true, true_or, or_true, false_or, or_false, reduceIte, hc1.a4]
    exact choose n 0 0 [] _ _ (by omega) hp0 (lft_all n) (fun u hu => hO u hu) (hF.v _ ⟨rfl, by omega⟩) (by rw [mJ_wJ, if_pos ⟨rfl, rfl, rfl⟩]) rfl rfl (fun j hj => by cases hj) (fun j _ hj => by rw [Nat.zero_testBit] at hj; cases hj)
  have fill : ∀ t c1 w2 w3 w4, t ≤ 2 ^ n → FRJ wY c c1 → (∀ u, t ≤ u → u < 2 ^ n → RS c1 n sz ct u) → X 25 [.ref (ob 4 0), .int (nI t - 1), w2, w3, w4] [] (pm c1 M) 0 0 := by
    intro t
    induction t with
    | zero =>
      intro c1 w2 w3 w4 ht hF hO
      apply h25
      simp only [B_X4_lay_25, o_il, o_if, o_al, o_gf, o_lc, o_jjd, o_last, o_inc, nth_1, nth_0, lset_1, opV_1, mV_4_3, al_4, hc.p4_3, kd_88, ix_88, hc.l88, cI_88, cw_88, cJ_88, cv_88, hc.a4, ix_4, cats_nil, cats_cons, rf_s, rf_n, isR_r, isR_n, isR_rf, cat_i, cat_l, cat_r, cat_n, cat_rf, unl_i, unl_l, unl_r, unl_n, unl_j, unl_rf, orf_r, orf_n, orf_rf, rf_null, mA_pm, mL_pm, mP_pm, List.length_cons, List.length_nil, List.cons_append, List.nil_append, Nat.reduceAdd, Nat.reduceLeDiff, Nat.reduceLT, Nat.reduceEqDiff, Nat.zero_add, Nat.add_zero, Nat.le_refl, Nat.zero_le, true_and, and_true, true_or, or_true, false_or, or_false, reduceIte]
      refine ⟨fun _ => k50 c1 _ _ _ _ hF (fun u hu => hO u (by omega) hu), fun z => absurd (by decide) z⟩
    | succ u ihu =>
      intro c1 w2 w3 w4 ht hF hO
      have hc1 := hF.sk hc
      have hu256 : u < 256 := by omega
      rw [nI_pred]
      apply h25
      simp only [B_X4_lay_25, o_il, o_if, o_al, o_gf, o_lc, o_jjd, o_last, o_inc, nth_1, nth_0, lset_1, opV_1, mV_4_3, al_4, hc.p4_3, kd_88, ix_88, hc.l88, cI_88, cw_88, cJ_88, cv_88, hc.a4, ix_4, cats_nil, cats_cons, rf_s, rf_n, isR_r, isR_n, isR_rf, cat_i, cat_l, cat_r, cat_n, cat_rf, unl_i, unl_l, unl_r, unl_n, unl_j, unl_rf, orf_r, orf_n, orf_rf, rf_null, mA_pm, mL_pm, mP_pm, List.length_cons, List.length_nil, List.cons_append, List.nil_append, Nat.reduceAdd, Nat.reduceLeDiff, Nat.reduceLT, Nat.reduceEqDiff, Nat.zero_add, Nat.add_zero, Nat.le_refl, Nat.zero_le, true_and, and_true, true_or, or_true, false_or, or_false, reduceIte, hc1.a4, hc1.p4_3, vin hu256, ncl hu256]
      refine ⟨fun z => absurd z (nI_ge0 (by omega)), fun _ => ?_⟩
      refine sp_best4 hc1 (hS.fr hF) (show u < 2 ^ n by omega) (fun i hi hb => hO _ (by have := Nat.two_pow_pos i; omega) (bit_lt (by omega) hi hb)) (fun x hx => ?_)
      have hxb : x < 2 ^ 63 ∧ x / 8 = (LV n sz ct (lft u n) u).1 := by
        rcases hx with ⟨x1, x2⟩ | ⟨k, y, x1, x2, x3, x4, x5⟩
        · rw [x1, x2]
          exact ⟨by omega, rfl⟩
        · refine ⟨by omega, ?_⟩
          rw [x1, LV_s, x2]
          show x / 8 = y.1
          omega
      have e8 : lN x / (8 : Int64) = lN (x / 8) := pk_lDiv (b := 8) hxb.1 (by omega) (by omega)
      simp only [o_il, o_if, o_al, o_gf, o_lc, o_jjd, o_last, o_inc, nth_1, nth_0, lset_1, opV_1, mV_4_3, al_4, hc.p4_3, kd_88, ix_88, hc.l88, cI_88, cw_88, cJ_88, cv_88, hc.a4, ix_4, cats_nil, cats_cons, rf_s, rf_n, isR_r, isR_n, isR_rf, cat_i, cat_l, cat_r, cat_n, cat_rf, unl_i, unl_l, unl_r, unl_n, unl_j, unl_rf, orf_r, orf_n, orf_rf, rf_null, mA_pm, mL_pm, mP_pm, List.length_cons, List.length_nil, List.cons_append, List.nil_append, Nat.reduceAdd, Nat.reduceLeDiff, Nat.reduceLT, Nat.reduceEqDiff, Nat.zero_add, Nat.add_zero, Nat.le_refl, Nat.zero_le, true_and, and_true, true_or, or_true, false_or, or_false, reduceIte, hc1.l88, e8, vin hu256, ncl hu256]
      refine ⟨by decide, ?_⟩
      rw [show nI u + -1 = nI u - 1 by grind]
      refine ihu _ _ _ _ (by omega) (hF.v _ ⟨rfl, by omega⟩) (fun u' h1 h2 => ?_)
      unfold RS
      rw [mJ_wJ]
      by_cases e : u' = u
      · rw [if_pos ⟨rfl, e, rfl⟩, e, hxb.2]
      · rw [if_neg (fun z => e z.2.1)]
        exact hO u' (by omega) h2
  have e0 : ∀ n, n < 9 → (if nI 256 < (1 : Int32) <<< (nI n &&& 31) then nI 256 else (1 : Int32) <<< (nI n &&& 31)) - 1 = nI (2 ^ n) - 1 := by decide +kernel
  apply h0
  simp only [B_X4_lay_0, o_al, o_gf, o_if, o_vret, nth_0, mV_4_7, al_4, cI_4, hc.a4, ix_4, cats_nil, cats_cons, rf_s, rf_n, isR_r, isR_n, isR_rf, cat_i, cat_l, cat_r, cat_n, cat_rf, unl_i, unl_l, unl_r, unl_n, unl_j, unl_rf, orf_r, orf_n, orf_rf, rf_null, mA_pm, mL_pm, mP_pm, List.length_cons, List.length_nil, List.cons_append, List.nil_append, Nat.reduceAdd, Nat.reduceLeDiff, Nat.reduceLT, Nat.reduceEqDiff, Nat.zero_add, Nat.add_zero, Nat.le_refl, Nat.zero_le, true_and, and_true, true_or, or_true, false_or, or_false, reduceIte]
  refine ⟨fun q => ?_, fun q => ?_⟩
  · apply h8
    simp only [B_X4_lay_8, o_ic, o_al, o_gf, o_ii, o_alen, o_m2, o_is, nth_0, lset_1, mV_4_4, al_4, cI_4, hc.a4, ix_4, mV_4_3, hc.p4_3, kd_88, ix_88, hc.l88, cI_88, cw_88, cJ_88, cv_88, cats_nil, cats_cons, rf_s, rf_n, isR_r, isR_n, isR_rf, cat_i, cat_l, cat_r, cat_n, cat_rf, unl_i, unl_l, unl_r, unl_n, unl_j, unl_rf, orf_r, orf_n, orf_rf, rf_null, mA_pm, mL_pm, mP_pm, List.length_cons, List.length_nil, List.cons_append, List.nil_append, Nat.reduceAdd, Nat.reduceLeDiff, Nat.reduceLT, Nat.reduceEqDiff, Nat.zero_add, Nat.add_zero, Nat.le_refl, Nat.zero_le, true_and, and_true, true_or, or_true, false_or, or_false, reduceIte, hS.2.1, ofN, e0 n (by omega)]
    exact fill (2 ^ n) c _ _ _ (Nat.le_refl _) (FRJ.rf _ _) (fun u h1 h2 => by omega)
  · rcases hL with ⟨z1, z2⟩ | z
    · exact H c (FRJ.rf _ _) z1 z2
    · exact absurd z q
end ZC11
