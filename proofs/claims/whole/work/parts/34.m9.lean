/-! The model: a reader works -/
def costW (M : MD) (k a t : Nat) : Int32 := costF (fromF M a) (toF M a) (M.1 23 t) (M.1 41 k)
def endA (M : MD) (k a t : Nat) : MD := uI (uI (uI (uI (uI M 40 k (M.1 40 k + 1)) 41 k (wayF (fromF M a) (toF M a) (M.1 23 t) (M.1 41 k))) 23 t (toF M a)) 30 a (if M.1 21 t = 4 then 3 else 2)) 31 a (M.1 7 9)
def endR (M : MD) (a t : Nat) (N : MD) : MD := if M.1 21 t = 4 then uJ N 92 a 0 else if M.1 25 a = 2 then uJ (uJ N 91 (60 * t + frN M a) (cutF (M.1 21 t) (M.1 28 a).toInt64)) 92 a (M.2 91 (60 * t + frN M a)) else uJ N 92 a (sl (M.2 91) (60 * t + frN M a) (toN M a + 1 - frN M a))
def shM (M : MD) (k : Nat) : Nat → MD
  | 0 => M
  | n + 1 => uI (shM M k n) 38 (8 * k + n) ((shM M k n).1 38 (8 * k + n + 1))
theorem shM_ne (M : MD) (k : Nat) {b : Nat} (hb : b ≠ 38) (i : Nat) : ∀ n, (shM M k n).1 b i = M.1 b i
  | 0 => rfl
  | n + 1 => by
    show (uI (shM M k n) 38 _ _).1 b i = _
    rw [uI_1, if_neg (fun z => hb z.1)]
    exact shM_ne M k hb i n
theorem shM_2 (M : MD) (k : Nat) : ∀ n, (shM M k n).2 = M.2
  | 0 => rfl
  | n + 1 => shM_2 M k n
theorem endR_1 (M : MD) (a t : Nat) (N : MD) : (endR M a t N).1 = N.1 := by
  unfold endR
  split
  · rfl
  · split <;> rfl
def endP (M : MD) (k a t n : Nat) : MD := uI (uI (endR M a t (endA M k a t)) 40 k 0) 39 k (nI n)
def endM (M : MD) (k a t n : Nat) : MD := if n = 0 then uI (shM (endP M k a t n) k n) 36 k 3 else shM (endP M k a t n) k n
section ZM9
variable {l : Launch} {D : DD} {d : Nat} {c : HP} {M : MD} {Q : List Value → HP → Prop}
theorem sp_works (hs : SKM c) {nR nT nA k t : Nat} (hR2 : nR ≤ 3) (hA2 : nA ≤ 150) (hT2 : nT ≤ 12) (hW : GW M nR nA) (hG : GA M nT nA) (hk : k < nR) (ht : t < nT) (h37 : M.1 37 k = nI t) (hat : 0 < wkN M k → M.1 26 (wkL M k 0) = nI t)
    (H : ∀ r M', (wkN M k = 0 ∧ r = 0 ∧ SC (uI M 36 k 3) M') ∨ (0 < wkN M k ∧ ¬ costW M k (wkL M k 0) t ≤ M.1 40 k + 1 ∧ r = 0 ∧ SC (uI M 40 k (M.1 40 k + 1)) M') ∨ (0 < wkN M k ∧ costW M k (wkL M k 0) t ≤ M.1 40 k + 1 ∧ r = 1 ∧ SC (endM M k (wkL M k 0) t (wkN M k - 1)) M') → Q [.int r] (pm c M')) : K_X7_works l D (d + 3) [.ref (ob 7 0), .int (nI k)] (pm c M) Q := by
  refine m_X7_works (lsA := [.ref (ob 7 0), .int (nI k), jk, jk, jk, jk]) rfl (Nat.le_of_ble_eq_true rfl) ?_
  intro X h0 h18 h73 h108 h109 h125 h126 h151 h156 h177 h220 h236
  have hk3 : k < 3 := by omega
  have ht2 : t < 12 := by omega
  obtain ⟨w1, w2, w3⟩ := hW k hk
  obtain ⟨n, hn⟩ : ∃ n, n = wkN M k := ⟨_, rfl⟩
  rw [← hn] at w1 w2 w3 hat H
  have e8 : (8 : Int32) * nI k = nI (8 * k) := by rw [show (8 : Int32) = nI 8 from rfl, pk_mul]
  have h8 : 8 * k < 24 := by omega
  apply h0
  simp only [B_X7_works_0, o_al, o_gf, o_il, o_iald, o_if, o_ic, o_iast, o_iret, nth_0, nth_1, mV_7_31, al_7, hs.a7, hs.p31, kd_39, ix_39, hs.l39, rm_39, wm_39, ix_7, mV_7_28, hs.p28, kd_36, ix_36, hs.l36, rm_36, wm_36, cats_nil, cats_cons, rf_s, rf_n, isR_r, isR_n, isR_rf, cat_i, cat_l, cat_r, cat_n, cat_rf, unl_i, unl_l, unl_r, unl_n, unl_j, unl_rf, orf_r, orf_n, orf_rf, rf_null, mA_pm, mL_pm, mP_pm, List.length_cons, List.length_nil, List.cons_append, List.nil_append, Nat.reduceAdd, Nat.reduceLeDiff, Nat.reduceLT, Nat.reduceEqDiff, Nat.zero_add, Nat.add_zero, Nat.le_refl, Nat.zero_le, true_and, and_true, true_or, or_true, false_or, or_false, reduceIte, vin hk3, ncl hk3, w1]
  refine ⟨fun q => H 0 _ (Or.inl ⟨?_, rfl, (SC.rf M).u 36 k 3⟩), fun q => ?_⟩
  · rw [show (0 : Int32) = nI 0 from rfl, nI_eq_iff] at q
    exact q
  have hn0 : 0 < n := by
    rcases Nat.eq_zero_or_pos n with z | z
    · exact absurd (by rw [z]; rfl) q
    · exact z
  obtain ⟨v1, v2⟩ := w3 0 hn0
  have n1 : nI n - 1 = nI (n - 1) := by rw [show (1 : Int32) = nI 1 from rfl, pk_sub (by omega)]
  have v1' : M.1 38 (8 * k) = nI (wkL M k 0) := v1
  have hat' := hat hn0
  obtain ⟨a, ha⟩ : ∃ a, a = wkL M k 0 := ⟨_, rfl⟩
  rw [← ha] at v1' hat' H v2
  have ha2 : a < 150 := by omega
  obtain ⟨t', p, b1, b2, b3, b4, b5, b6, b7, b8⟩ := hG a v2
  have ag1 : AG M (uI M 40 k (M.1 40 k + 1)) := (AG.rf M).w _ rfl
  have k177 : costW M k a t ≤ M.1 40 k + 1 → ∀ m i M', i + m = n - 1 → SC (shM (endP M k a t (n - 1)) k i) M' → ∀ w : Int32, X 177 [.ref (ob 7 0), .int (nI k), .int (nI a), .int (nI t), .int w, .int (nI i)] [] (pm c M') 0 0 := by
    intro hc m
    induction m with
    | zero =>
      intro i M' hi g w
      have r39 : M'.1 39 k = nI (n - 1) := by
        rw [g.r39, shM_ne _ _ (by decide)]
        exact if_pos ⟨rfl, rfl⟩
      apply h177
      simp only [B_X7_works_177, o_il, o_al, o_gf, o_iald, o_ic2, o_ic, o_ii, o_iast, o_inc, nth_5, nth_0, nth_1, lset_5, mV_7_31, al_7, hs.a7, hs.p31, kd_39, ix_39, hs.l39, rm_39, wm_39, ix_7, mV_7_30, hs.p30, kd_38, ix_38, hs.l38, rm_38, wm_38, cats_nil, cats_cons, rf_s, rf_n, isR_r, isR_n, isR_rf, cat_i, cat_l, cat_r, cat_n, cat_rf, unl_i, unl_l, unl_r, unl_n, unl_j, unl_rf, orf_r, orf_n, orf_rf, rf_null, mA_pm, mL_pm, mP_pm, List.length_cons, List.length_nil, List.cons_append, List.nil_append, Nat.reduceAdd, Nat.reduceLeDiff, Nat.reduceLT, Nat.reduceEqDiff, Nat.zero_add, Nat.add_zero, Nat.le_refl, Nat.zero_le, true_and, and_true, true_or, or_true, false_or, or_false, reduceIte, vin hk3, ncl hk3, r39]
      refine ⟨fun _ => ?_, fun z => absurd (nI_le (by omega) (by omega)) z⟩
      rw [show i = n - 1 by omega] at g
      apply h220
      simp only [B_X7_works_220, o_al, o_gf, o_il, o_iald, o_if, o_ic, o_iast, nth_0, nth_1, mV_7_31, al_7, hs.a7, hs.p31, kd_39, ix_39, hs.l39, rm_39, wm_39, ix_7, mV_7_28, hs.p28, kd_36, ix_36, hs.l36, rm_36, wm_36, cats_nil, cats_cons, rf_s, rf_n, isR_r, isR_n, isR_rf, cat_i, cat_l, cat_r, cat_n, cat_rf, unl_i, unl_l, unl_r, unl_n, unl_j, unl_rf, orf_r, orf_n, orf_rf, rf_null, mA_pm, mL_pm, mP_pm, List.length_cons, List.length_nil, List.cons_append, List.nil_append, Nat.reduceAdd, Nat.reduceLeDiff, Nat.reduceLT, Nat.reduceEqDiff, Nat.zero_add, Nat.add_zero, Nat.le_refl, Nat.zero_le, true_and, and_true, true_or, or_true, false_or, or_false, reduceIte, vin hk3, ncl hk3, r39]
      refine ⟨fun z => ?_, fun z => ?_⟩
      · rw [show (0 : Int32) = nI 0 from rfl, nI_eq_iff] at z
        apply h236
        simp only [B_X7_works_236, o_ic, o_iret, cats_nil, cats_cons, rf_s, rf_n, isR_r, isR_n, isR_rf, cat_i, cat_l, cat_r, cat_n, cat_rf, unl_i, unl_l, unl_r, unl_n, unl_j, unl_rf, orf_r, orf_n, orf_rf, rf_null, mA_pm, mL_pm, mP_pm, List.length_cons, List.length_nil, List.cons_append, List.nil_append, Nat.reduceAdd, Nat.reduceLeDiff, Nat.reduceLT, Nat.reduceEqDiff, Nat.zero_add, Nat.add_zero, Nat.le_refl, Nat.zero_le, true_and, and_true, true_or, or_true, false_or, or_false, reduceIte]
        refine H 1 _ (Or.inr (Or.inr ⟨hn0, hc, rfl, ?_⟩))
        unfold endM
        rw [if_pos z]
        exact g.u 36 k 3
      · apply h236
        simp only [B_X7_works_236, o_ic, o_iret, cats_nil, cats_cons, rf_s, rf_n, isR_r, isR_n, isR_rf, cat_i, cat_l, cat_r, cat_n, cat_rf, unl_i, unl_l, unl_r, unl_n, unl_j, unl_rf, orf_r, orf_n, orf_rf, rf_null, mA_pm, mL_pm, mP_pm, List.length_cons, List.length_nil, List.cons_append, List.nil_append, Nat.reduceAdd, Nat.reduceLeDiff, Nat.reduceLT, Nat.reduceEqDiff, Nat.zero_add, Nat.add_zero, Nat.le_refl, Nat.zero_le, true_and, and_true, true_or, or_true, false_or, or_false, reduceIte]
        refine H 1 _ (Or.inr (Or.inr ⟨hn0, hc, rfl, ?_⟩))
        unfold endM
        rw [if_neg (fun y => z (by rw [y]; rfl))]
        exact g
    | succ m ih =>
      intro i M' hi g w
      have r39 : M'.1 39 k = nI (n - 1) := by
        rw [g.r39, shM_ne _ _ (by decide)]
        exact if_pos ⟨rfl, rfl⟩
      have h9 : 8 * k + i < 24 := by omega
      have h10 : 8 * k + i + 1 < 24 := by omega
      apply h177
      simp only [B_X7_works_177, o_il, o_al, o_gf, o_iald, o_ic2, o_ic, o_ii, o_iast, o_inc, nth_5, nth_0, nth_1, lset_5, mV_7_31, al_7, hs.a7, hs.p31, kd_39, ix_39, hs.l39, rm_39, wm_39, ix_7, mV_7_30, hs.p30, kd_38, ix_38, hs.l38, rm_38, wm_38, cats_nil, cats_cons, rf_s, rf_n, isR_r, isR_n, isR_rf, cat_i, cat_l, cat_r, cat_n, cat_rf, unl_i, unl_l, unl_r, unl_n, unl_j, unl_rf, orf_r, orf_n, orf_rf, rf_null, mA_pm, mL_pm, mP_pm, List.length_cons, List.length_nil, List.cons_append, List.nil_append, Nat.reduceAdd, Nat.reduceLeDiff, Nat.reduceLT, Nat.reduceEqDiff, Nat.zero_add, Nat.add_zero, Nat.le_refl, Nat.zero_le, true_and, and_true, true_or, or_true, false_or, or_false, reduceIte, vin hk3, ncl hk3, r39, e8, nI_add, vin h9, ncl h9, nI_1, vin h10, ncl h10, g.r38]
      refine ⟨fun z => absurd z (by rw [nI_le_iff]; omega), fun _ => ?_⟩
      exact ih (i + 1) _ (by omega) (g.u 38 (8 * k + i) _) w
  have k156 : costW M k a t ≤ M.1 40 k + 1 → ∀ (y : Int32) (N : MD) (v : Int64), SC (endR M a t (endA M k a t)) (uJ N 92 a v) → X 156 [.ref (ob 7 0), .int (nI k), .int (nI a), .int (nI t), .int y, jk] [.long v, .int (nI a), .ref (ob 92 0)] (pm c N) 0 0 := by
    intro hc y N v g
    have r39 : N.1 39 k = nI n := by
      have : (uJ N 92 a v).1 39 k = nI n := by
        rw [g.r39, endR_1]
        exact w1
      exact this
    apply h156
    simp only [B_X7_works_156, o_last, o_al, o_gf, o_il, o_ic, o_iast, o_dup2, o_iald, o_ii, o_is, nth_0, nth_1, lset_5, mV_7_32, al_7, hs.a7, hs.p32, kd_40, ix_40, hs.l40, rm_40, wm_40, ix_7, mV_7_31, hs.p31, kd_39, ix_39, hs.l39, rm_39, wm_39, cats_nil, cats_cons, rf_s, rf_n, isR_r, isR_n, isR_rf, cat_i, cat_l, cat_r, cat_n, cat_rf, unl_i, unl_l, unl_r, unl_n, unl_j, unl_rf, orf_r, orf_n, orf_rf, rf_null, mA_pm, mL_pm, mP_pm, List.length_cons, List.length_nil, List.cons_append, List.nil_append, Nat.reduceAdd, Nat.reduceLeDiff, Nat.reduceLT, Nat.reduceEqDiff, Nat.zero_add, Nat.add_zero, Nat.le_refl, Nat.zero_le, true_and, and_true, true_or, or_true, false_or, or_false, reduceIte, vin ha2, ncl ha2, vin hk3, ncl hk3, uJ_1, r39, uI_1, Nat.reduceEqDiff, false_and, n1, kd_92, ix_92, wm_92, hs.l92]
    exact k177 hc (n - 1) 0 _ (by omega) ((g.u 40 k 0).u 39 k _) y
  have k126 : costW M k a t ≤ M.1 40 k + 1 → ∀ (y z : Int32) (N : MD), (y = 1 ∧ M.1 21 t = 4 ∧ z = 3) ∨ (y = 0 ∧ ¬ M.1 21 t = 4 ∧ z = 2) → SC (endA M k a t) (uI (uI N 30 a z) 31 a (M.1 7 9)) → N.1 7 9 = M.1 7 9 → X 126 [.ref (ob 7 0), .int (nI k), .int (nI a), .int (nI t), .int y, jk] [.int z, .int (nI a), .ref (ob 30 0)] (pm c N) 0 0 := by
    intro hc y z N hy g g9
    apply h126
    simp only [B_X7_works_126, o_iast, o_al, o_gf, o_il, o_if, o_lc, nth_0, nth_2, nth_4, mV_7_18, al_7, hs.a7, hs.p18, kd_31, ix_31, hs.l31, rm_31, wm_31, ix_7, mV_7_9, rm_7, mV_7_19, hs.p19, kd_92, ix_92, hs.l92, rm_92, wm_92, cats_nil, cats_cons, rf_s, rf_n, isR_r, isR_n, isR_rf, cat_i, cat_l, cat_r, cat_n, cat_rf, unl_i, unl_l, unl_r, unl_n, unl_j, unl_rf, orf_r, orf_n, orf_rf, rf_null, mA_pm, mL_pm, mP_pm, List.length_cons, List.length_nil, List.cons_append, List.nil_append, Nat.reduceAdd, Nat.reduceLeDiff, Nat.reduceLT, Nat.reduceEqDiff, Nat.zero_add, Nat.add_zero, Nat.le_refl, Nat.zero_le, true_and, and_true, true_or, or_true, false_or, or_false, reduceIte, vin ha2, ncl ha2, uI_1, Nat.reduceEqDiff, false_and, g9, kd_30, ix_30, wm_30, hs.l30]
    rcases hy with ⟨rfl, y1, rfl⟩ | ⟨rfl, y1, rfl⟩
    · refine ⟨fun z => absurd z (by decide), fun _ => ?_⟩
      refine k156 hc 1 _ 0 ?_
      unfold endR
      rw [if_pos y1]
      exact g.uj 92 a 0
    · refine ⟨fun _ => ?_, fun z => absurd rfl z⟩
      have ag : ∀ b i, b ≠ 40 → b ≠ 41 → b ≠ 23 → b ≠ 30 → b ≠ 31 → (endA M k a t).1 b i = M.1 b i := by
        intro b i q1 q2 q3 q4 q5
        unfold endA
        rw [uI_1, if_neg (fun z => q5 z.1), uI_1, if_neg (fun z => q4 z.1), uI_1, if_neg (fun z => q3 z.1), uI_1, if_neg (fun z => q2 z.1), uI_1, if_neg (fun z => q1 z.1)]
      obtain ⟨N2, hN2⟩ : ∃ N2, N2 = uI (uI N 30 a 2) 31 a (M.1 7 9) := ⟨_, rfl⟩
      rw [← hN2] at g ⊢
      have e25 : N2.1 25 a = M.1 25 a := (g.r25 a).trans (ag 25 a (by decide) (by decide) (by decide) (by decide) (by decide))
      have e26 : N2.1 26 a = M.1 26 a := (g.r26 a).trans (ag 26 a (by decide) (by decide) (by decide) (by decide) (by decide))
      have e27 : N2.1 27 a = M.1 27 a := (g.r27 a).trans (ag 27 a (by decide) (by decide) (by decide) (by decide) (by decide))
      have e28 : N2.1 28 a = M.1 28 a := (g.r28 a).trans (ag 28 a (by decide) (by decide) (by decide) (by decide) (by decide))
      have e22 : ∀ i, N2.1 22 i = M.1 22 i := fun i => (g.r22 i).trans (ag 22 i (by decide) (by decide) (by decide) (by decide) (by decide))
      have e21 : N2.1 21 t = M.1 21 t := (g.r21 t).trans (ag 21 t (by decide) (by decide) (by decide) (by decide) (by decide))
      have e91 : ∀ i, N2.2 91 i = M.2 91 i := fun i => g.r91 i
      have e91' : N2.2 91 = M.2 91 := funext e91
      have ef : fromF N2 a = nI (frN M a) := by unfold fromF; rw [e25, e27]; exact b3
      have et : toF N2 a = nI (toN M a) := by unfold toF; rw [e25, e26, e27, e28, e22]; exact b4
      apply h151
      simp only [B_X7_works_151, o_al, o_il, nth_0, nth_2, opV_1, al_7, ix_7, hs.a7, cats_nil, cats_cons, rf_s, rf_n, isR_r, isR_n, isR_rf, cat_i, cat_l, cat_r, cat_n, cat_rf, unl_i, unl_l, unl_r, unl_n, unl_j, unl_rf, orf_r, orf_n, orf_rf, rf_null, mA_pm, mL_pm, mP_pm, List.length_cons, List.length_nil, List.cons_append, List.nil_append, Nat.reduceAdd, Nat.reduceLeDiff, Nat.reduceLT, Nat.reduceEqDiff, Nat.zero_add, Nat.add_zero, Nat.le_refl, Nat.zero_le, true_and, and_true, true_or, or_true, false_or, or_false, reduceIte]
      refine sp_results hs ha2 ht2 (e26.trans hat') ef et b5 (by omega) (fun r M' hr => ?_)
      simp only [o_al, o_il, nth_0, nth_2, opV_1, al_7, ix_7, hs.a7, cats_nil, cats_cons, rf_s, rf_n, isR_r, isR_n, isR_rf, cat_i, cat_l, cat_r, cat_n, cat_rf, unl_i, unl_l, unl_r, unl_n, unl_j, unl_rf, orf_r, orf_n, orf_rf, rf_null, mA_pm, mL_pm, mP_pm, List.length_cons, List.length_nil, List.cons_append, List.nil_append, Nat.reduceAdd, Nat.reduceLeDiff, Nat.reduceLT, Nat.reduceEqDiff, Nat.zero_add, Nat.add_zero, Nat.le_refl, Nat.zero_le, true_and, and_true, true_or, or_true, false_or, or_false, reduceIte]
      rw [e25, e91', e21, e28] at hr
      rcases hr with ⟨r1, r2, r3⟩ | ⟨r1, r2, r3⟩
      · refine k156 hc 0 _ _ ?_
        unfold endR
        rw [if_neg y1, if_pos r1, r2, r3]
        exact (g.uj 91 _ _).uj 92 a _
      · refine k156 hc 0 _ _ ?_
        unfold endR
        rw [if_neg y1, if_neg r1, r2, r3]
        exact g.uj 92 a _
  have k73 : costW M k a t ≤ M.1 40 k + 1 → X 73 [.ref (ob 7 0), .int (nI k), .int (nI a), .int (nI t), jk, jk] [] (pm c (uI (uI M 40 k (M.1 40 k + 1)) 7 20 (wayF (fromF M a) (toF M a) (M.1 23 t) (M.1 41 k)))) 0 0 := by
    intro hc
    have ag2 : AG M (uI (uI (uI M 40 k (M.1 40 k + 1)) 7 20 (wayF (fromF M a) (toF M a) (M.1 23 t) (M.1 41 k))) 41 k (wayF (fromF M a) (toF M a) (M.1 23 t) (M.1 41 k))) := (((AG.rf M).w _ rfl).w _ rfl).w _ rfl
    have hsA : ∀ z, SC (uI (uI (uI (uI (uI M 40 k (M.1 40 k + 1)) 41 k (wayF (fromF M a) (toF M a) (M.1 23 t) (M.1 41 k))) 23 t (toF M a)) 30 a z) 31 a (M.1 7 9)) (uI (uI (uI (uI (uI (uI M 40 k (M.1 40 k + 1)) 7 20 (wayF (fromF M a) (toF M a) (M.1 23 t) (M.1 41 k))) 41 k (wayF (fromF M a) (toF M a) (M.1 23 t) (M.1 41 k))) 23 t (toF M a)) 30 a z) 31 a (M.1 7 9)) := fun z => (((((SC.rf _).w _ rfl).u 41 k _).u 23 t _).u 30 a z).u 31 a _
    apply h73
    simp only [B_X7_works_73, o_al, o_gf, o_il, o_iast, o_iald, o_ic, o_ic2, nth_0, nth_1, nth_3, nth_2, opV_1, mV_7_33, al_7, hs.a7, hs.p33, kd_41, ix_41, hs.l41, rm_41, wm_41, ix_7, mV_7_20, rm_7, mV_7_5, hs.p5, kd_23, ix_23, hs.l23, rm_23, wm_23, mV_7_3, hs.p3, kd_21, ix_21, hs.l21, rm_21, wm_21, cats_nil, cats_cons, rf_s, rf_n, isR_r, isR_n, isR_rf, cat_i, cat_l, cat_r, cat_n, cat_rf, unl_i, unl_l, unl_r, unl_n, unl_j, unl_rf, orf_r, orf_n, orf_rf, rf_null, mA_pm, mL_pm, mP_pm, List.length_cons, List.length_nil, List.cons_append, List.nil_append, Nat.reduceAdd, Nat.reduceLeDiff, Nat.reduceLT, Nat.reduceEqDiff, Nat.zero_add, Nat.add_zero, Nat.le_refl, Nat.zero_le, true_and, and_true, true_or, or_true, false_or, or_false, reduceIte, vin hk3, ncl hk3, uI_1, Nat.reduceEqDiff, false_and, vin ht2, ncl ht2]
    refine sp_toOf hs ha2 ht2 hat' ?_
    rw [toF_ag ag2]
    simp only [o_al, o_gf, o_il, o_iast, o_iald, o_ic, o_ic2, nth_0, nth_1, nth_3, nth_2, opV_1, mV_7_33, al_7, hs.a7, hs.p33, kd_41, ix_41, hs.l41, rm_41, wm_41, ix_7, mV_7_20, rm_7, mV_7_5, hs.p5, kd_23, ix_23, hs.l23, rm_23, wm_23, mV_7_3, hs.p3, kd_21, ix_21, hs.l21, rm_21, wm_21, cats_nil, cats_cons, rf_s, rf_n, isR_r, isR_n, isR_rf, cat_i, cat_l, cat_r, cat_n, cat_rf, unl_i, unl_l, unl_r, unl_n, unl_j, unl_rf, orf_r, orf_n, orf_rf, rf_null, mA_pm, mL_pm, mP_pm, List.length_cons, List.length_nil, List.cons_append, List.nil_append, Nat.reduceAdd, Nat.reduceLeDiff, Nat.reduceLT, Nat.reduceEqDiff, Nat.zero_add, Nat.add_zero, Nat.le_refl, Nat.zero_le, true_and, and_true, true_or, or_true, false_or, or_false, reduceIte, vin hk3, ncl hk3, uI_1, Nat.reduceEqDiff, false_and, vin ht2, ncl ht2]
    refine ⟨fun q => ?_, fun q => ?_⟩
    · apply h109
      simp only [B_X7_works_109, o_is, o_al, o_gf, o_il, o_if, o_ic, lset_4, nth_0, nth_2, nth_4, mV_7_17, al_7, hs.a7, hs.p17, kd_30, ix_30, hs.l30, rm_30, wm_30, ix_7, cats_nil, cats_cons, rf_s, rf_n, isR_r, isR_n, isR_rf, cat_i, cat_l, cat_r, cat_n, cat_rf, unl_i, unl_l, unl_r, unl_n, unl_j, unl_rf, orf_r, orf_n, orf_rf, rf_null, mA_pm, mL_pm, mP_pm, List.length_cons, List.length_nil, List.cons_append, List.nil_append, Nat.reduceAdd, Nat.reduceLeDiff, Nat.reduceLT, Nat.reduceEqDiff, Nat.zero_add, Nat.add_zero, Nat.le_refl, Nat.zero_le, true_and, and_true, true_or, or_true, false_or, or_false, reduceIte, vin ha2, ncl ha2]
      refine ⟨fun z => absurd z (by decide), fun _ => ?_⟩
      refine k126 hc 1 3 _ (Or.inl ⟨rfl, q, rfl⟩) ?_ rfl
      unfold endA
      rw [if_pos q]
      exact hsA 3
    · apply h108
      simp only [B_X7_works_108, o_ic, cats_nil, cats_cons, rf_s, rf_n, isR_r, isR_n, isR_rf, cat_i, cat_l, cat_r, cat_n, cat_rf, unl_i, unl_l, unl_r, unl_n, unl_j, unl_rf, orf_r, orf_n, orf_rf, rf_null, mA_pm, mL_pm, mP_pm, List.length_cons, List.length_nil, List.cons_append, List.nil_append, Nat.reduceAdd, Nat.reduceLeDiff, Nat.reduceLT, Nat.reduceEqDiff, Nat.zero_add, Nat.add_zero, Nat.le_refl, Nat.zero_le, true_and, and_true, true_or, or_true, false_or, or_false, reduceIte]
      apply h109
      simp only [B_X7_works_109, o_is, o_al, o_gf, o_il, o_if, o_ic, lset_4, nth_0, nth_2, nth_4, mV_7_17, al_7, hs.a7, hs.p17, kd_30, ix_30, hs.l30, rm_30, wm_30, ix_7, cats_nil, cats_cons, rf_s, rf_n, isR_r, isR_n, isR_rf, cat_i, cat_l, cat_r, cat_n, cat_rf, unl_i, unl_l, unl_r, unl_n, unl_j, unl_rf, orf_r, orf_n, orf_rf, rf_null, mA_pm, mL_pm, mP_pm, List.length_cons, List.length_nil, List.cons_append, List.nil_append, Nat.reduceAdd, Nat.reduceLeDiff, Nat.reduceLT, Nat.reduceEqDiff, Nat.zero_add, Nat.add_zero, Nat.le_refl, Nat.zero_le, true_and, and_true, true_or, or_true, false_or, or_false, reduceIte, vin ha2, ncl ha2]
      refine ⟨fun _ => ?_, fun z => absurd trivial z⟩
      apply h125
      simp only [B_X7_works_125, o_ic, cats_nil, cats_cons, rf_s, rf_n, isR_r, isR_n, isR_rf, cat_i, cat_l, cat_r, cat_n, cat_rf, unl_i, unl_l, unl_r, unl_n, unl_j, unl_rf, orf_r, orf_n, orf_rf, rf_null, mA_pm, mL_pm, mP_pm, List.length_cons, List.length_nil, List.cons_append, List.nil_append, Nat.reduceAdd, Nat.reduceLeDiff, Nat.reduceLT, Nat.reduceEqDiff, Nat.zero_add, Nat.add_zero, Nat.le_refl, Nat.zero_le, true_and, and_true, true_or, or_true, false_or, or_false, reduceIte]
      refine k126 hc 0 2 _ (Or.inr ⟨rfl, q, rfl⟩) ?_ rfl
      unfold endA
      rw [if_neg q]
      exact hsA 2
  apply h18
  simp only [B_X7_works_18, o_al, o_gf, o_ic, o_il, o_ii, o_iald, o_is, o_dup2, o_iast, o_ic2, o_iret, nth_0, nth_1, lset_2, lset_3, nth_2, nth_3, opV_3, mV_7_30, al_7, hs.a7, hs.p30, kd_38, ix_38, hs.l38, rm_38, wm_38, ix_7, mV_7_29, hs.p29, kd_37, ix_37, hs.l37, rm_37, wm_37, mV_7_32, hs.p32, kd_40, ix_40, hs.l40, rm_40, wm_40, mV_7_5, hs.p5, kd_23, ix_23, hs.l23, rm_23, wm_23, mV_7_33, hs.p33, kd_41, ix_41, hs.l41, rm_41, wm_41, cats_nil, cats_cons, rf_s, rf_n, isR_r, isR_n, isR_rf, cat_i, cat_l, cat_r, cat_n, cat_rf, unl_i, unl_l, unl_r, unl_n, unl_j, unl_rf, orf_r, orf_n, orf_rf, rf_null, mA_pm, mL_pm, mP_pm, List.length_cons, List.length_nil, List.cons_append, List.nil_append, Nat.reduceAdd, Nat.reduceLeDiff, Nat.reduceLT, Nat.reduceEqDiff, Nat.zero_add, Nat.add_zero, Nat.le_refl, Nat.zero_le, true_and, and_true, true_or, or_true, false_or, or_false, reduceIte, vin hk3, ncl hk3, e8, vin h8, ncl h8, v1', h37, uI_1, Nat.reduceEqDiff, false_and, vin ht2, ncl ht2]
  refine sp_costOf (M := uI M 40 k (M.1 40 k + 1)) hs ha2 ht2 hat' _ _ ?_
  rw [fromF_ag ag1, toF_ag ag1]
  simp only [o_al, o_gf, o_ic, o_il, o_ii, o_iald, o_is, o_dup2, o_iast, o_ic2, o_iret, nth_0, nth_1, lset_2, lset_3, nth_2, nth_3, opV_3, mV_7_30, al_7, hs.a7, hs.p30, kd_38, ix_38, hs.l38, rm_38, wm_38, ix_7, mV_7_29, hs.p29, kd_37, ix_37, hs.l37, rm_37, wm_37, mV_7_32, hs.p32, kd_40, ix_40, hs.l40, rm_40, wm_40, mV_7_5, hs.p5, kd_23, ix_23, hs.l23, rm_23, wm_23, mV_7_33, hs.p33, kd_41, ix_41, hs.l41, rm_41, wm_41, cats_nil, cats_cons, rf_s, rf_n, isR_r, isR_n, isR_rf, cat_i, cat_l, cat_r, cat_n, cat_rf, unl_i, unl_l, unl_r, unl_n, unl_j, unl_rf, orf_r, orf_n, orf_rf, rf_null, mA_pm, mL_pm, mP_pm, List.length_cons, List.length_nil, List.cons_append, List.nil_append, Nat.reduceAdd, Nat.reduceLeDiff, Nat.reduceLT, Nat.reduceEqDiff, Nat.zero_add, Nat.add_zero, Nat.le_refl, Nat.zero_le, true_and, and_true, true_or, or_true, false_or, or_false, reduceIte]
  exact ⟨fun q => k73 q, fun q => H 0 _ (Or.inr (Or.inl ⟨hn0, q, rfl, (SC.rf _).w _ rfl⟩))⟩
end ZM9
