/-! The class: the least to come -/
theorem bit_a : ∀ u, u < 256 → ∀ i, i < 8 → (nI u &&& ((1 : Int32) <<< (nI i &&& 31)) = 0 ↔ u.testBit i = false) := by decide +kernel
/-- what rest holds for a set -/
def RO (c : HP) (n hd : Nat) (fr to : Nat → Nat) (wt : Bool) (u : Nat) : Prop := ∀ s, okS n hd fr to s → s < 24 → u.testBit (s / 3) = true → mI c 14 (u * 24 + s) 0 = nI (VS n fr to wt (lft u n) u (plS hd to s) (wyS s)).1
def BV (x : Option (Nat × List Nat)) : Int32 := match x with
  | none => 2147483647
  | some x => nI (x.1 * 8 + x.2.headD 0)
theorem cnd_hd {n : Nat} {fr to : Nat → Nat} {wt : Bool} {r u h v i : Nat} {x : Nat × List Nat} (hx : fm (cnd n fr to wt r u h v) i = some x) : ∃ j, j < i ∧ u.testBit j = false ∧ x = ((if wt = true then r + 1 else 1) * cN (fr j) (to j) h v + (VS n fr to wt r (u + 2 ^ j) (to j) (wyN (fr j) (to j) h v)).1, j :: (VS n fr to wt r (u + 2 ^ j) (to j) (wyN (fr j) (to j) h v)).2) := by
  obtain ⟨j, hj, hc⟩ := fm_mem hx
  unfold cnd at hc
  split at hc
  · cases hc
  · rename_i hb
    cases hc
    exact ⟨j, hj, by simpa using hb, rfl⟩
theorem cnd_le {n : Nat} {fr to : Nat → Nat} {wt : Bool} {r u h v j : Nat} (hn : n ≤ 8) (hb : ∀ i, i < n → fr i < 60 ∧ to i < 60) (hr : r < 8) (hh : h < 60) (hj : j < n) : (if wt = true then r + 1 else 1) * cN (fr j) (to j) h v + (VS n fr to wt r (u + 2 ^ j) (to j) (wyN (fr j) (to j) h v)).1 ≤ 8192 := by
  have h1 := VS_lt (fr := fr) (to := to) (wt := wt) hn hb r (u + 2 ^ j) (to j) (wyN (fr j) (to j) h v) (by omega) (hb j hj).2
  have h2 := cN_lt (v := v) (hb j hj).1 (hb j hj).2 hh
  have h3 : (if wt = true then r + 1 else 1) * cN (fr j) (to j) h v ≤ 8 * 128 := Nat.mul_le_mul (by split <;> omega) (by omega)
  omega
theorem lft_pos {u i : Nat} (hb : u.testBit i = false) {n : Nat} (hi : i < n) : 0 < lft u n := by
  have := lft_s hb (n := n)
  rw [if_pos hi] at this
  omega
section ZC5
variable {l : Launch} {D : DD} {d : Nat} {c : HP} {M : MD} {Q : List Value → HP → Prop}
set_option maxHeartbeats 1000000 in
theorem sp_best (hc : SKF c) {n hd : Nat} {fr to : Nat → Nat} (hP : PD c n hd fr to) (wt : Bool) {s u : Nat} (hs : okS n hd fr to s) (hR : RF c n hd fr to s) (hu : u < 2 ^ n) (hO : ∀ i, i < n → u.testBit i = false → RO c n hd fr to wt (u + 2 ^ i)) (H : ∀ r, ((lft u n = 0 ∧ r = 0) ∨ (∃ k x, lft u n = k + 1 ∧ fm (cnd n fr to wt k u (plS hd to s) (wyS s)) n = some x ∧ r = x.1 * 8 + x.2.headD 0 ∧ x.1 ≤ 8192 ∧ x.2.headD 0 < n)) → Q [.int (nI r)] (pm c M)) : K_X2_best l D (d + 2) [.ref (ob 2 0), .int (nI u), .int (nI s), .int (if wt = true then 1 else 0)] (pm c M) Q := by
  refine m_X2_best (lsA := [.ref (ob 2 0), .int (nI u), .int (nI s), .int (if wt = true then 1 else 0), jk, jk, jk, jk, jk, jk, jk]) rfl (Nat.le_of_ble_eq_true rfl) ?_
  intro X h0 h20 h21 h32 h34 h39 h124 h130
  obtain ⟨hn, hhd, h29, h28, hA⟩ := hP
  have hs24 : s ≤ 24 := by rcases hs with h | h <;> omega
  have hu8 : u < 256 := Nat.lt_of_lt_of_le hu (by have := Nat.pow_le_pow_right (show 0 < 2 by omega) hn; omega)
  have hpl : plS hd to s < 60 := by
    unfold plS
    split
    · exact hhd
    · rcases hs with h | ⟨h1, h2, -⟩
      · omega
      · exact (hA _ h2).2.2.2
  have hft : ∀ i, i < n → fr i < 60 ∧ to i < 60 := fun i hi => by have := hA i hi; omega
  obtain ⟨L, hL⟩ : ∃ L, L = lft u n := ⟨_, rfl⟩
  have hL8 : L ≤ 8 := by
    rw [hL]
    have : ∀ m, lft u m ≤ m := by
      intro m
      induction m with
      | zero => exact Nat.le_refl _
      | succ m ih => show lft u m + _ ≤ m + 1; split <;> omega
    exact Nat.le_trans (this n) hn
  have k39 : ∀ k, L = k + 1 → ∀ m i w8 w9 w10, i + m = n → X 39 [.ref (ob 2 0), .int (nI u), .int (nI s), .int (if wt = true then 1 else 0), .int (nI L), .int (nI (if wt = true then L else 1)), .int (BV (fm (cnd n fr to wt k u (plS hd to s) (wyS s)) i)), .int (nI i), w8, w9, w10] [] (pm c M) 0 0 := by
    intro k hk m
    induction m with
    | zero =>
      intro i w8 w9 w10 hi
      obtain rfl : i = n := by omega
      obtain ⟨x, hx⟩ := fm_some (fr := fr) (to := to) (wt := wt) (h := plS hd to s) (v := wyS s) (show lft u i = k + 1 by omega)
      obtain ⟨j, hj, hb, rfl⟩ := cnd_hd hx
      apply h39
      simp only [B_X2_best_39, o_il, o_al, o_gf, o_ic2, o_ic, o_ii, o_is, o_if, o_m2, nth_7, nth_0, lset_8, nth_1, nth_8, nth_2, lset_9, nth_5, nth_9, lset_10, nth_6, nth_10, lset_6, opS_2, mV_2_9, al_2, cI_2, hc.a2, ix_2, mV_2_3, hc.p2_3, kd_11, ix_11, hc.l11, cI_11, cw_11, mV_2_6, hc.p2_6, kd_14, ix_14, hc.l14, cI_14, cw_14, mV_2_4, hc.p2_4, kd_12, ix_12, hc.l12, cI_12, cw_12, cats_nil, cats_cons, rf_s, rf_n, isR_r, isR_n, isR_rf, cat_i, cat_l, cat_r, cat_n, cat_rf, unl_i, unl_l, unl_r, unl_n, unl_j, unl_rf, orf_r, orf_n, orf_rf, rf_null, mA_pm, mL_pm, mP_pm, List.length_cons, List.length_nil, List.cons_append, List.nil_append, Nat.reduceAdd, Nat.reduceLeDiff, Nat.reduceLT, Nat.reduceEqDiff, Nat.zero_add, Nat.add_zero, Nat.le_refl, Nat.zero_le, true_and, and_true, true_or, or_true, false_or, or_false, reduceIte, h29]
      refine ⟨fun _ => ?_, fun z => absurd (nI_le (by omega) (by omega)) z⟩
      apply h130
      simp only [B_X2_best_130, o_il, o_iret, nth_6, cats_nil, cats_cons, rf_s, rf_n, isR_r, isR_n, isR_rf, cat_i, cat_l, cat_r, cat_n, cat_rf, unl_i, unl_l, unl_r, unl_n, unl_j, unl_rf, orf_r, orf_n, orf_rf, rf_null, mA_pm, mL_pm, mP_pm, List.length_cons, List.length_nil, List.cons_append, List.nil_append, Nat.reduceAdd, Nat.reduceLeDiff, Nat.reduceLT, Nat.reduceEqDiff, Nat.zero_add, Nat.add_zero, Nat.le_refl, Nat.zero_le, true_and, and_true, true_or, or_true, false_or, or_false, reduceIte]
      rw [hx]
      exact H _ (Or.inr ⟨k, _, by omega, hx, rfl, cnd_le hn hft (by omega) hpl hj, hj⟩)
    | succ m ih =>
      intro i w8 w9 w10 hi
      have hin : i < n := by omega
      have hi8 : i < 8 := by omega
      have k124 : ∀ b w8 w9 w10, b = BV (fm (cnd n fr to wt k u (plS hd to s) (wyS s)) (i + 1)) → X 124 [.ref (ob 2 0), .int (nI u), .int (nI s), .int (if wt = true then 1 else 0), .int (nI L), .int (nI (if wt = true then L else 1)), .int b, .int (nI i), w8, w9, w10] [] (pm c M) 0 0 := by
        intro b w8 w9 w10 e
        apply h124
        simp only [B_X2_best_124, o_inc, nth_7, lset_7, cats_nil, cats_cons, rf_s, rf_n, isR_r, isR_n, isR_rf, cat_i, cat_l, cat_r, cat_n, cat_rf, unl_i, unl_l, unl_r, unl_n, unl_j, unl_rf, orf_r, orf_n, orf_rf, rf_null, mA_pm, mL_pm, mP_pm, List.length_cons, List.length_nil, List.cons_append, List.nil_append, Nat.reduceAdd, Nat.reduceLeDiff, Nat.reduceLT, Nat.reduceEqDiff, Nat.zero_add, Nat.add_zero, Nat.le_refl, Nat.zero_le, true_and, and_true, true_or, or_true, false_or, or_false, reduceIte, nI_1]
        rw [e]
        exact ih (i + 1) w8 w9 w10 (by omega)
      apply h39
      simp only [B_X2_best_39, o_il, o_al, o_gf, o_ic2, o_ic, o_ii, o_is, o_if, o_m2, nth_7, nth_0, lset_8, nth_1, nth_8, nth_2, lset_9, nth_5, nth_9, lset_10, nth_6, nth_10, lset_6, opS_2, mV_2_9, al_2, cI_2, hc.a2, ix_2, mV_2_3, hc.p2_3, kd_11, ix_11, hc.l11, cI_11, cw_11, mV_2_6, hc.p2_6, kd_14, ix_14, hc.l14, cI_14, cw_14, mV_2_4, hc.p2_4, kd_12, ix_12, hc.l12, cI_12, cw_12, cats_nil, cats_cons, rf_s, rf_n, isR_r, isR_n, isR_rf, cat_i, cat_l, cat_r, cat_n, cat_rf, unl_i, unl_l, unl_r, unl_n, unl_j, unl_rf, orf_r, orf_n, orf_rf, rf_null, mA_pm, mL_pm, mP_pm, List.length_cons, List.length_nil, List.cons_append, List.nil_append, Nat.reduceAdd, Nat.reduceLeDiff, Nat.reduceLT, Nat.reduceEqDiff, Nat.zero_add, Nat.add_zero, Nat.le_refl, Nat.zero_le, true_and, and_true, true_or, or_true, false_or, or_false, reduceIte, h29, bit_a u hu8 i hi8]
      refine ⟨fun z => absurd z (by rw [nI_le_iff]; omega), fun _ => ⟨fun z => ?_, fun z => ?_⟩⟩
      · obtain ⟨o1, o2⟩ := bit_o u hu8 i hi8 z
        obtain ⟨a1, a2, a3, a4⟩ := hA i hin
        obtain ⟨r1, r2⟩ := hR i hin
        have hs8 : s * 8 + i < 200 := by omega
        have e8 : nI s * (8 : Int32) + nI i = nI (s * 8 + i) := by rw [show (8 : Int32) = nI 8 from rfl, pk_mul, nI_add]
        obtain ⟨n1, n2, n3⟩ := okS_next hn hs hin a3
        obtain ⟨q, hq⟩ : ∃ q, q = i * 3 + wyN (fr i) (to i) (plS hd to s) (wyS s) := ⟨_, rfl⟩
        rw [← hq] at n1 n2 n3 r2
        have hwl := wyN_lt (f := fr i) (g := to i) (h := plS hd to s) (v := wyS s) (wyS_lt s)
        have hq24 : q < 24 := by omega
        have hbq : (u + 2 ^ i).testBit (q / 3) = true := by rw [n2, bit_add z]; simp
        have hro := hO i hin z q n1 hq24 hbq
        have hlt := lft_s z (n := n)
        rw [if_pos hin] at hlt
        have epl : plS hd to q = to i := by unfold plS; rw [if_neg (by omega), n2]
        have ewy : wyS q = wyN (fr i) (to i) (plS hd to s) (wyS s) := by
          show (if q = 24 then 1 else q % 3) = _
          rw [if_neg (by omega), n3]
        rw [show lft (u + 2 ^ i) n = k by omega, epl, ewy] at hro
        have hi6 : (u + 2 ^ i) * 24 + q < 6144 := by omega
        have e24 : nI (u + 2 ^ i) * (24 : Int32) + nI q = nI ((u + 2 ^ i) * 24 + q) := by rw [show (24 : Int32) = nI 24 from rfl, pk_mul, nI_add]
        simp only [e8]
        refine sp_at (n := 200) (by decide) rfl hc.l11 (by omega) hs8 ?_
        rw [r1]
        simp only [o_il, o_al, o_gf, o_ic2, o_ic, o_ii, o_is, o_if, o_m2, nth_7, nth_0, lset_8, nth_1, nth_8, nth_2, lset_9, nth_5, nth_9, lset_10, nth_6, nth_10, lset_6, opS_2, mV_2_9, al_2, cI_2, hc.a2, ix_2, mV_2_3, hc.p2_3, kd_11, ix_11, hc.l11, cI_11, cw_11, mV_2_6, hc.p2_6, kd_14, ix_14, hc.l14, cI_14, cw_14, mV_2_4, hc.p2_4, kd_12, ix_12, hc.l12, cI_12, cw_12, cats_nil, cats_cons, rf_s, rf_n, isR_r, isR_n, isR_rf, cat_i, cat_l, cat_r, cat_n, cat_rf, unl_i, unl_l, unl_r, unl_n, unl_j, unl_rf, orf_r, orf_n, orf_rf, rf_null, mA_pm, mL_pm, mP_pm, List.length_cons, List.length_nil, List.cons_append, List.nil_append, Nat.reduceAdd, Nat.reduceLeDiff, Nat.reduceLT, Nat.reduceEqDiff, Nat.zero_add, Nat.add_zero, Nat.le_refl, Nat.zero_le, true_and, and_true, true_or, or_true, false_or, or_false, reduceIte, pk_mul, o1]
        refine sp_at (n := 200) (by decide) rfl hc.l12 (by omega) hs8 ?_
        rw [r2]
        simp only [o_il, o_al, o_gf, o_ic2, o_ic, o_ii, o_is, o_if, o_m2, nth_7, nth_0, lset_8, nth_1, nth_8, nth_2, lset_9, nth_5, nth_9, lset_10, nth_6, nth_10, lset_6, opS_2, mV_2_9, al_2, cI_2, hc.a2, ix_2, mV_2_3, hc.p2_3, kd_11, ix_11, hc.l11, cI_11, cw_11, mV_2_6, hc.p2_6, kd_14, ix_14, hc.l14, cI_14, cw_14, mV_2_4, hc.p2_4, kd_12, ix_12, hc.l12, cI_12, cw_12, cats_nil, cats_cons, rf_s, rf_n, isR_r, isR_n, isR_rf, cat_i, cat_l, cat_r, cat_n, cat_rf, unl_i, unl_l, unl_r, unl_n, unl_j, unl_rf, orf_r, orf_n, orf_rf, rf_null, mA_pm, mL_pm, mP_pm, List.length_cons, List.length_nil, List.cons_append, List.nil_append, Nat.reduceAdd, Nat.reduceLeDiff, Nat.reduceLT, Nat.reduceEqDiff, Nat.zero_add, Nat.add_zero, Nat.le_refl, Nat.zero_le, true_and, and_true, true_or, or_true, false_or, or_false, reduceIte, e24]
        refine sp_at (n := 6144) (by decide) rfl hc.l14 (by omega) hi6 ?_
        rw [hro]
        simp only [o_il, o_al, o_gf, o_ic2, o_ic, o_ii, o_is, o_if, o_m2, nth_7, nth_0, lset_8, nth_1, nth_8, nth_2, lset_9, nth_5, nth_9, lset_10, nth_6, nth_10, lset_6, opS_2, mV_2_9, al_2, cI_2, hc.a2, ix_2, mV_2_3, hc.p2_3, kd_11, ix_11, hc.l11, cI_11, cw_11, mV_2_6, hc.p2_6, kd_14, ix_14, hc.l14, cI_14, cw_14, mV_2_4, hc.p2_4, kd_12, ix_12, hc.l12, cI_12, cw_12, cats_nil, cats_cons, rf_s, rf_n, isR_r, isR_n, isR_rf, cat_i, cat_l, cat_r, cat_n, cat_rf, unl_i, unl_l, unl_r, unl_n, unl_j, unl_rf, orf_r, orf_n, orf_rf, rf_null, mA_pm, mL_pm, mP_pm, List.length_cons, List.length_nil, List.cons_append, List.nil_append, Nat.reduceAdd, Nat.reduceLeDiff, Nat.reduceLT, Nat.reduceEqDiff, Nat.zero_add, Nat.add_zero, Nat.le_refl, Nat.zero_le, true_and, and_true, true_or, or_true, false_or, or_false, reduceIte, nI_add]
        obtain ⟨S, hS⟩ : ∃ S, S = (if wt = true then L else 1) * cN (fr i) (to i) (plS hd to s) (wyS s) + (VS n fr to wt k (u + 2 ^ i) (to i) (wyN (fr i) (to i) (plS hd to s) (wyS s))).1 := ⟨_, rfl⟩
        have hSb := cnd_le (n := n) (fr := fr) (to := to) (wt := wt) (r := k) (u := u) (v := wyS s) hn hft (by omega) hpl hin
        rw [← hk, ← hS] at hSb
        rw [← hS]
        have e88 : nI S * (8 : Int32) + nI i = nI (S * 8 + i) := by rw [show (8 : Int32) = nI 8 from rfl, pk_mul, nI_add]
        simp only [e88]
        refine k124 _ _ _ _ ?_
        have ec : cnd n fr to wt k u (plS hd to s) (wyS s) i = some (S, i :: (VS n fr to wt k (u + 2 ^ i) (to i) (wyN (fr i) (to i) (plS hd to s) (wyS s))).2) := by
          rw [hS, hk]
          exact if_neg (by rw [z]; decide)
        show _ = BV (fmO (fm _ i) (cnd n fr to wt k u (plS hd to s) (wyS s) i))
        rw [ec]
        cases hf : fm (cnd n fr to wt k u (plS hd to s) (wyS s)) i with
        | none =>
          show (if nI (S * 8 + i) < 2147483647 then nI (S * 8 + i) else 2147483647) = nI (S * 8 + i)
          rw [if_pos]
          rw [show (2147483647 : Int32) = nI 2147483647 from rfl, nI_lt_iff]
          omega
        | some x =>
          obtain ⟨j, hj, hb, rfl⟩ := cnd_hd hf
          have hb1 := cnd_le (n := n) (fr := fr) (to := to) (wt := wt) (r := k) (u := u) (v := wyS s) hn hft (by omega) hpl (show j < n by omega)
          generalize ((if wt = true then k + 1 else 1) * cN (fr j) (to j) (plS hd to s) (wyS s) + (VS n fr to wt k (u + 2 ^ j) (to j) (wyN (fr j) (to j) (plS hd to s) (wyS s))).1) = Y at hb1 ⊢
          show (if nI (S * 8 + i) < nI (Y * 8 + j) then nI (S * 8 + i) else nI (Y * 8 + j)) = BV (if S < Y then _ else _)
          by_cases hSY : S < Y
          · rw [if_pos hSY, if_pos (show nI (S * 8 + i) < nI (Y * 8 + j) by rw [nI_lt_iff]; omega)]
            rfl
          · rw [if_neg hSY, if_neg (show ¬ nI (S * 8 + i) < nI (Y * 8 + j) by rw [nI_lt_iff]; omega)]
            rfl
      · have hb : u.testBit i = true := by simpa using z
        refine k124 _ _ _ _ ?_
        show BV _ = BV (fmO (fm _ i) (cnd n fr to wt k u (plS hd to s) (wyS s) i))
        rw [show cnd n fr to wt k u (plS hd to s) (wyS s) i = none from if_pos hb]
        rfl
  have k34 : ∀ k, L = k + 1 → X 34 [.ref (ob 2 0), .int (nI u), .int (nI s), .int (if wt = true then 1 else 0), .int (nI L), .int (nI (if wt = true then L else 1)), jk, jk, jk, jk, jk] [.int 2147483647] (pm c M) 0 0 := by
    intro k hk
    apply h34
    simp only [B_X2_best_34, o_is, o_ic, lset_6, lset_7, cats_nil, cats_cons, rf_s, rf_n, isR_r, isR_n, isR_rf, cat_i, cat_l, cat_r, cat_n, cat_rf, unl_i, unl_l, unl_r, unl_n, unl_j, unl_rf, orf_r, orf_n, orf_rf, rf_null, mA_pm, mL_pm, mP_pm, List.length_cons, List.length_nil, List.cons_append, List.nil_append, Nat.reduceAdd, Nat.reduceLeDiff, Nat.reduceLT, Nat.reduceEqDiff, Nat.zero_add, Nat.add_zero, Nat.le_refl, Nat.zero_le, true_and, and_true, true_or, or_true, false_or, or_false, reduceIte]
    exact k39 k hk n 0 _ _ _ (by omega)
  have k39z : L = 0 → ∀ m i w8 w9 w10, i + m = n → X 39 [.ref (ob 2 0), .int (nI u), .int (nI s), .int (if wt = true then 1 else 0), .int (nI L), .int (nI (if wt = true then L else 1)), .int 0, .int (nI i), w8, w9, w10] [] (pm c M) 0 0 := by
    intro hL0 m
    induction m with
    | zero =>
      intro i w8 w9 w10 hi
      apply h39
      simp only [B_X2_best_39, o_il, o_al, o_gf, o_ic2, o_ic, o_ii, o_is, o_if, o_m2, nth_7, nth_0, lset_8, nth_1, nth_8, nth_2, lset_9, nth_5, nth_9, lset_10, nth_6, nth_10, lset_6, opS_2, mV_2_9, al_2, cI_2, hc.a2, ix_2, mV_2_3, hc.p2_3, kd_11, ix_11, hc.l11, cI_11, cw_11, mV_2_6, hc.p2_6, kd_14, ix_14, hc.l14, cI_14, cw_14, mV_2_4, hc.p2_4, kd_12, ix_12, hc.l12, cI_12, cw_12, cats_nil, cats_cons, rf_s, rf_n, isR_r, isR_n, isR_rf, cat_i, cat_l, cat_r, cat_n, cat_rf, unl_i, unl_l, unl_r, unl_n, unl_j, unl_rf, orf_r, orf_n, orf_rf, rf_null, mA_pm, mL_pm, mP_pm, List.length_cons, List.length_nil, List.cons_append, List.nil_append, Nat.reduceAdd, Nat.reduceLeDiff, Nat.reduceLT, Nat.reduceEqDiff, Nat.zero_add, Nat.add_zero, Nat.le_refl, Nat.zero_le, true_and, and_true, true_or, or_true, false_or, or_false, reduceIte, h29]
      refine ⟨fun _ => ?_, fun z => absurd (nI_le (by omega) (by omega)) z⟩
      apply h130
      simp only [B_X2_best_130, o_il, o_iret, nth_6, cats_nil, cats_cons, rf_s, rf_n, isR_r, isR_n, isR_rf, cat_i, cat_l, cat_r, cat_n, cat_rf, unl_i, unl_l, unl_r, unl_n, unl_j, unl_rf, orf_r, orf_n, orf_rf, rf_null, mA_pm, mL_pm, mP_pm, List.length_cons, List.length_nil, List.cons_append, List.nil_append, Nat.reduceAdd, Nat.reduceLeDiff, Nat.reduceLT, Nat.reduceEqDiff, Nat.zero_add, Nat.add_zero, Nat.le_refl, Nat.zero_le, true_and, and_true, true_or, or_true, false_or, or_false, reduceIte]
      exact H 0 (Or.inl ⟨by omega, rfl⟩)
    | succ m ih =>
      intro i w8 w9 w10 hi
      have hi8 : i < 8 := by omega
      have hb := lft_bits (u := u) (n := n) (by omega) i (by omega)
      apply h39
      simp only [B_X2_best_39, o_il, o_al, o_gf, o_ic2, o_ic, o_ii, o_is, o_if, o_m2, nth_7, nth_0, lset_8, nth_1, nth_8, nth_2, lset_9, nth_5, nth_9, lset_10, nth_6, nth_10, lset_6, opS_2, mV_2_9, al_2, cI_2, hc.a2, ix_2, mV_2_3, hc.p2_3, kd_11, ix_11, hc.l11, cI_11, cw_11, mV_2_6, hc.p2_6, kd_14, ix_14, hc.l14, cI_14, cw_14, mV_2_4, hc.p2_4, kd_12, ix_12, hc.l12, cI_12, cw_12, cats_nil, cats_cons, rf_s, rf_n, isR_r, isR_n, isR_rf, cat_i, cat_l, cat_r, cat_n, cat_rf, unl_i, unl_l, unl_r, unl_n, unl_j, unl_rf, orf_r, orf_n, orf_rf, rf_null, mA_pm, mL_pm, mP_pm, List.length_cons, List.length_nil, List.cons_append, List.nil_append, Nat.reduceAdd, Nat.reduceLeDiff, Nat.reduceLT, Nat.reduceEqDiff, Nat.zero_add, Nat.add_zero, Nat.le_refl, Nat.zero_le, true_and, and_true, true_or, or_true, false_or, or_false, reduceIte, h29, bit_a u hu8 i hi8]
      refine ⟨fun z => absurd z (by rw [nI_le_iff]; omega), fun _ => ⟨fun z => absurd (hb.symm.trans z) (by decide), fun z => ?_⟩⟩
      apply h124
      simp only [B_X2_best_124, o_inc, nth_7, lset_7, cats_nil, cats_cons, rf_s, rf_n, isR_r, isR_n, isR_rf, cat_i, cat_l, cat_r, cat_n, cat_rf, unl_i, unl_l, unl_r, unl_n, unl_j, unl_rf, orf_r, orf_n, orf_rf, rf_null, mA_pm, mL_pm, mP_pm, List.length_cons, List.length_nil, List.cons_append, List.nil_append, Nat.reduceAdd, Nat.reduceLeDiff, Nat.reduceLT, Nat.reduceEqDiff, Nat.zero_add, Nat.add_zero, Nat.le_refl, Nat.zero_le, true_and, and_true, true_or, or_true, false_or, or_false, reduceIte, nI_1]
      exact ih (i + 1) _ _ _ (by omega)
  have k21 : X 21 [.ref (ob 2 0), .int (nI u), .int (nI s), .int (if wt = true then 1 else 0), .int (nI L), jk, jk, jk, jk, jk, jk] [.int (nI (if wt = true then L else 1))] (pm c M) 0 0 := by
    apply h21
    simp only [B_X2_best_21, o_is, o_il, o_if, o_ic, lset_5, nth_4, cats_nil, cats_cons, rf_s, rf_n, isR_r, isR_n, isR_rf, cat_i, cat_l, cat_r, cat_n, cat_rf, unl_i, unl_l, unl_r, unl_n, unl_j, unl_rf, orf_r, orf_n, orf_rf, rf_null, mA_pm, mL_pm, mP_pm, List.length_cons, List.length_nil, List.cons_append, List.nil_append, Nat.reduceAdd, Nat.reduceLeDiff, Nat.reduceLT, Nat.reduceEqDiff, Nat.zero_add, Nat.add_zero, Nat.le_refl, Nat.zero_le, true_and, and_true, true_or, or_true, false_or, or_false, reduceIte]
    refine ⟨fun z => ?_, fun z => ?_⟩
    · rw [show (0 : Int32) = nI 0 from rfl, nI_eq_iff] at z
      apply h34
      simp only [B_X2_best_34, o_is, o_ic, lset_6, lset_7, cats_nil, cats_cons, rf_s, rf_n, isR_r, isR_n, isR_rf, cat_i, cat_l, cat_r, cat_n, cat_rf, unl_i, unl_l, unl_r, unl_n, unl_j, unl_rf, orf_r, orf_n, orf_rf, rf_null, mA_pm, mL_pm, mP_pm, List.length_cons, List.length_nil, List.cons_append, List.nil_append, Nat.reduceAdd, Nat.reduceLeDiff, Nat.reduceLT, Nat.reduceEqDiff, Nat.zero_add, Nat.add_zero, Nat.le_refl, Nat.zero_le, true_and, and_true, true_or, or_true, false_or, or_false, reduceIte]
      exact k39z z n 0 _ _ _ (by omega)
    · apply h32
      simp only [B_X2_best_32, o_ic, cats_nil, cats_cons, rf_s, rf_n, isR_r, isR_n, isR_rf, cat_i, cat_l, cat_r, cat_n, cat_rf, unl_i, unl_l, unl_r, unl_n, unl_j, unl_rf, orf_r, orf_n, orf_rf, rf_null, mA_pm, mL_pm, mP_pm, List.length_cons, List.length_nil, List.cons_append, List.nil_append, Nat.reduceAdd, Nat.reduceLeDiff, Nat.reduceLT, Nat.reduceEqDiff, Nat.zero_add, Nat.add_zero, Nat.le_refl, Nat.zero_le, true_and, and_true, true_or, or_true, false_or, or_false, reduceIte]
      refine k34 (L - 1) ?_
      have : ¬ L = 0 := fun y => z (by rw [y]; rfl)
      omega
  apply h0
  simp only [B_X2_best_0, o_al, o_gf, o_il, o_ii, o_is, o_if, nth_0, nth_1, lset_4, nth_3, nth_4, opS_1, mV_2_9, al_2, cI_2, hc.a2, ix_2, cats_nil, cats_cons, rf_s, rf_n, isR_r, isR_n, isR_rf, cat_i, cat_l, cat_r, cat_n, cat_rf, unl_i, unl_l, unl_r, unl_n, unl_j, unl_rf, orf_r, orf_n, orf_rf, rf_null, mA_pm, mL_pm, mP_pm, List.length_cons, List.length_nil, List.cons_append, List.nil_append, Nat.reduceAdd, Nat.reduceLeDiff, Nat.reduceLT, Nat.reduceEqDiff, Nat.zero_add, Nat.add_zero, Nat.le_refl, Nat.zero_le, true_and, and_true, true_or, or_true, false_or, or_false, reduceIte, h29]
  refine sp_bitCount _ _ ?_
  simp only [o_al, o_gf, o_il, o_ii, o_is, o_if, nth_0, nth_1, lset_4, nth_3, nth_4, opS_1, mV_2_9, al_2, cI_2, hc.a2, ix_2, cats_nil, cats_cons, rf_s, rf_n, isR_r, isR_n, isR_rf, cat_i, cat_l, cat_r, cat_n, cat_rf, unl_i, unl_l, unl_r, unl_n, unl_j, unl_rf, orf_r, orf_n, orf_rf, rf_null, mA_pm, mL_pm, mP_pm, List.length_cons, List.length_nil, List.cons_append, List.nil_append, Nat.reduceAdd, Nat.reduceLeDiff, Nat.reduceLT, Nat.reduceEqDiff, Nat.zero_add, Nat.add_zero, Nat.le_refl, Nat.zero_le, true_and, and_true, true_or, or_true, false_or, or_false, reduceIte, bc_l n (by omega) u hu8 hu]
  rw [← hL]
  cases wt with
  | true => exact ⟨fun z => absurd z (by decide), fun _ => k21⟩
  | false =>
    refine ⟨fun _ => ?_, fun z => absurd rfl z⟩
    apply h20
    simp only [B_X2_best_20, o_ic, cats_nil, cats_cons, rf_s, rf_n, isR_r, isR_n, isR_rf, cat_i, cat_l, cat_r, cat_n, cat_rf, unl_i, unl_l, unl_r, unl_n, unl_j, unl_rf, orf_r, orf_n, orf_rf, rf_null, mA_pm, mL_pm, mP_pm, List.length_cons, List.length_nil, List.cons_append, List.nil_append, Nat.reduceAdd, Nat.reduceLeDiff, Nat.reduceLT, Nat.reduceEqDiff, Nat.zero_add, Nat.add_zero, Nat.le_refl, Nat.zero_le, true_and, and_true, true_or, or_true, false_or, or_false, reduceIte]
    exact k21
end ZC5
