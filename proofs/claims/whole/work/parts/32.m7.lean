/-! The model: orders of a tape, told -/
def frN (M : MD) (k : Nat) : Nat := (fromF M k).toNatClampNeg
def toN (M : MD) (k : Nat) : Nat := (toF M k).toNatClampNeg
def hdN (M : MD) (t : Nat) : Nat := (M.1 23 t).toNatClampNeg
/-- good asks, good tapes -/
def GA (M : MD) (nT nA : Nat) : Prop := ∀ k, k < nA → ∃ t p, t < nT ∧ M.1 26 k = nI t ∧ fromF M k = nI (frN M k) ∧ toF M k = nI (toN M k) ∧ frN M k ≤ toN M k ∧ M.1 22 t = nI p ∧ p ≤ 60 ∧ toN M k < p
def GH (M : MD) (nT : Nat) : Prop := ∀ t, t < nT → M.1 23 t = nI (hdN M t) ∧ hdN M t < 60
def oL (M : MD) (t nA i : Nat) : Nat := (gl M t nA).getD i 0
def oV (M : MD) (t nA : Nat) (wt : Bool) : Nat × List Nat := VS (gl M t nA).length (fun i => frN M (oL M t nA i)) (fun i => toN M (oL M t nA i)) wt (gl M t nA).length 0 (hdN M t) 1
theorem oL_mem {M : MD} {t nA i : Nat} (h : i < (gl M t nA).length) : oL M t nA i < nA ∧ M.1 26 (oL M t nA i) = nI t ∧ M.1 30 (oL M t nA i) = 0 := by
  refine gl_mem M t nA _ ?_
  unfold oL
  rw [List.getD_eq_getElem?_getD, List.getElem?_eq_getElem h]
  exact List.getElem_mem h
theorem lft_all : ∀ n, lft 0 n = n
  | 0 => rfl
  | n + 1 => by
    show lft 0 n + _ = _
    rw [lft_all n, Nat.zero_testBit]
    rfl
theorem AskL_of {M : MD} {nT nA t : Nat} (hG : GA M nT nA) (hT2 : nT ≤ 12) (hA2 : nA ≤ 150) : AskL M t (gl M t nA).length (oL M t nA) (fun i => frN M (oL M t nA i)) (fun i => toN M (oL M t nA i)) := by
  refine ⟨gl_len M t nA, fun i hi => ?_⟩
  obtain ⟨h1, h2, -⟩ := oL_mem hi
  obtain ⟨t', p, g1, g2, g3, g4, g5, g6, g7, g8⟩ := hG _ h1
  exact ⟨by omega, h2, g3, g4, g5, by show toN M _ < 60; omega⟩
theorem oV_len {M : MD} {t nA : Nat} {wt : Bool} : (oV M t nA wt).2.length = (gl M t nA).length ∧ ∀ i ∈ (oV M t nA wt).2, i < (gl M t nA).length := by
  obtain ⟨h1, h2⟩ := VS_len (n := (gl M t nA).length) (fr := fun i => frN M (oL M t nA i)) (to := fun i => toN M (oL M t nA i)) (wt := wt) (gl M t nA).length 0 (hdN M t) 1 (lft_all _)
  exact ⟨h1, fun i hi => (h2 i hi).1⟩
theorem oV_le {M : MD} {nT nA t : Nat} {wt : Bool} (hG : GA M nT nA) (hT2 : nT ≤ 12) (hh : hdN M t < 60) : (oV M t nA wt).1 ≤ 8192 := by
  have h := VS_lt (n := (gl M t nA).length) (fr := fun i => frN M (oL M t nA i)) (to := fun i => toN M (oL M t nA i)) (wt := wt) (gl_len M t nA) (fun i hi => by
    obtain ⟨h1, h2, -⟩ := oL_mem hi
    obtain ⟨t', p, g1, g2, g3, g4, g5, g6, g7, g8⟩ := hG _ h1
    exact ⟨by show frN M _ < 60; omega, by show toN M _ < 60; omega⟩) (gl M t nA).length 0 (hdN M t) 1 (gl_len M t nA) hh
  have := gl_len M t nA
  unfold oV
  omega
/-- the i-th ask of the order -/
def oS (M : MD) (t nA : Nat) (i : Nat) : Nat := oL M t nA ((oV M t nA false).2.getD i 0)
/-- the sum of waits of a sequence -/
def wS (fr to : Nat → Nat) : Nat → Nat → Nat → List Nat → Nat
  | _, _, _, [] => 0
  | h, v, cs, i :: l => (cs + cN (fr i) (to i) h v) + wS fr to (to i) (wyN (fr i) (to i) h v) (cs + cN (fr i) (to i) h v) l
def oW (M : MD) (t nA : Nat) : Nat := wS (fun i => frN M (oL M t nA i)) (fun i => toN M (oL M t nA i)) (hdN M t) 1 0 (oV M t nA false).2
theorem gl_sc {M M' : MD} (h : SC M M') (t k : Nat) : gl M' t k = gl M t k := gl_cong (fun i _ => ⟨h.r26 i, h.r30 i⟩)
theorem frN_sc {M M' : MD} (h : SC M M') (k : Nat) : frN M' k = frN M k := by unfold frN; rw [fromF_sc h]
theorem toN_sc {M M' : MD} (h : SC M M') (k : Nat) : toN M' k = toN M k := by unfold toN; rw [toF_sc h]
theorem hdN_sc {M M' : MD} (h : SC M M') (k : Nat) : hdN M' k = hdN M k := by unfold hdN; rw [h.r23]
theorem oL_sc {M M' : MD} (h : SC M M') (t k i : Nat) : oL M' t k i = oL M t k i := by unfold oL; rw [gl_sc h]
theorem oV_sc {M M' : MD} (h : SC M M') (t k : Nat) (wt : Bool) : oV M' t k wt = oV M t k wt := by
  unfold oV
  rw [gl_sc h, hdN_sc h, show (fun i => frN M' (oL M' t k i)) = (fun i => frN M (oL M t k i)) from funext fun i => by rw [oL_sc h, frN_sc h], show (fun i => toN M' (oL M' t k i)) = (fun i => toN M (oL M t k i)) from funext fun i => by rw [oL_sc h, toN_sc h]]
theorem oS_sc {M M' : MD} (h : SC M M') (t k i : Nat) : oS M' t k i = oS M t k i := by unfold oS; rw [oV_sc h, oL_sc h]
theorem oW_sc {M M' : MD} (h : SC M M') (t k : Nat) : oW M' t k = oW M t k := by
  unfold oW
  rw [oV_sc h, hdN_sc h, show (fun i => frN M' (oL M' t k i)) = (fun i => frN M (oL M t k i)) from funext fun i => by rw [oL_sc h, frN_sc h], show (fun i => toN M' (oL M' t k i)) = (fun i => toN M (oL M t k i)) from funext fun i => by rw [oL_sc h, toN_sc h]]
theorem GA_sc {M M' : MD} (h : SC M M') {nT nA : Nat} (g : GA M nT nA) : GA M' nT nA := by
  intro k hk
  obtain ⟨t, p, g1, g2, g3, g4, g5, g6, g7, g8⟩ := g k hk
  exact ⟨t, p, g1, by rw [h.r26]; exact g2, by rw [fromF_sc h, frN_sc h]; exact g3, by rw [toF_sc h, toN_sc h]; exact g4, by rw [frN_sc h, toN_sc h]; exact g5, by rw [h.r22]; exact g6, g7, by rw [toN_sc h]; exact g8⟩
theorem GH_sc {M M' : MD} (h : SC M M') {nT : Nat} (g : GH M nT) : GH M' nT := fun t ht => by rw [h.r23, hdN_sc h]; exact g t ht
theorem wS_le {n : Nat} {fr to : Nat → Nat} (hb : ∀ i, i < n → fr i < 60 ∧ to i < 60) : ∀ (L : List Nat) (h v cs : Nat), (∀ i ∈ L, i < n) → h < 60 → L.length ≤ 8 → wS fr to h v cs L ≤ L.length * (cs + L.length * 128)
  | [], _, _, _, _, _, _ => by simp [wS]
  | i :: L, h, v, cs, hm, hh, hl => by
    have hi := hm i List.mem_cons_self
    have h1 := wS_le hb L (to i) (wyN (fr i) (to i) h v) (cs + cN (fr i) (to i) h v) (fun j hj => hm j (List.mem_cons_of_mem _ hj)) (hb i hi).2 (by simp at hl; omega)
    have h2 := cN_lt (v := v) (hb i hi).1 (hb i hi).2 hh
    have h3 : L.length * (cs + cN (fr i) (to i) h v + L.length * 128) ≤ L.length * (cs + (L.length + 1) * 128) := Nat.mul_le_mul_left _ (by rw [Nat.add_mul]; omega)
    show cs + cN (fr i) (to i) h v + wS fr to _ _ _ L ≤ (L.length + 1) * (cs + (L.length + 1) * 128)
    rw [Nat.add_mul (L.length) 1]
    omega
section ZM7
variable {l : Launch} {D : DD} {d : Nat} {c : HP} {M : MD} {Q : List Value → HP → Prop}
theorem sp_orders (hs : SKM c) {nT nA t : Nat} (hA : M.1 7 8 = nI nA) (hA2 : nA ≤ 150) (hT2 : nT ≤ 12) (ht : t < nT) (hG : GA M nT nA) (hH : GH M nT) (wt : Bool) (H : ∀ M', SC M M' → M'.1 7 22 = nI (gl M t nA).length → M'.1 7 25 = nI (oV M t nA wt).1 → (∀ j, j < (gl M t nA).length → M'.1 34 j = nI (oL M t nA ((oV M t nA wt).2.getD j 0))) → Q [] (pm c M')) : K_X7_orders l D (d + 12) [.ref (ob 7 0), .int (nI t), .int (if wt = true then 1 else 0)] (pm c M) Q := by
  refine m_X7_orders (lsA := [.ref (ob 7 0), .int (nI t), .int (if wt = true then 1 else 0)]) rfl (Nat.le_of_ble_eq_true rfl) ?_
  intro X h0
  have ht2 : t < 12 := by omega
  have hL := AskL_of (t := t) hG hT2 hA2
  have hn := gl_len M t nA
  apply h0
  simp only [B_X7_orders_0, o_al, o_il, o_ic, o_pI, o_gf, o_iald, o_vret, nth_0, nth_1, nth_2, opV_1, opV_7, mV_7_5, al_7, hs.a7, hs.p5, kd_23, ix_23, hs.l23, rm_23, wm_23, ix_7, wm_7, wmJ_7, cats_nil, cats_cons, rf_s, rf_n, isR_r, isR_n, isR_rf, cat_i, cat_l, cat_r, cat_n, cat_rf, unl_i, unl_l, unl_r, unl_n, unl_j, unl_rf, orf_r, orf_n, orf_rf, rf_null, mA_pm, mL_pm, mP_pm, List.length_cons, List.length_nil, List.cons_append, List.nil_append, Nat.reduceAdd, Nat.reduceLeDiff, Nat.reduceLT, Nat.reduceEqDiff, Nat.zero_add, Nat.add_zero, Nat.le_refl, Nat.zero_le, true_and, and_true, true_or, or_true, false_or, or_false, reduceIte]
  refine sp_gathers hs hA hA2 ht2 (fun M' hS g1 g2 => ?_)
  simp only [o_al, o_il, o_ic, o_pI, o_gf, o_iald, o_vret, nth_0, nth_1, nth_2, opV_1, opV_7, mV_7_5, al_7, hs.a7, hs.p5, kd_23, ix_23, hs.l23, rm_23, wm_23, ix_7, wm_7, wmJ_7, cats_nil, cats_cons, rf_s, rf_n, isR_r, isR_n, isR_rf, cat_i, cat_l, cat_r, cat_n, cat_rf, unl_i, unl_l, unl_r, unl_n, unl_j, unl_rf, orf_r, orf_n, orf_rf, rf_null, mA_pm, mL_pm, mP_pm, List.length_cons, List.length_nil, List.cons_append, List.nil_append, Nat.reduceAdd, Nat.reduceLeDiff, Nat.reduceLT, Nat.reduceEqDiff, Nat.zero_add, Nat.add_zero, Nat.le_refl, Nat.zero_le, true_and, and_true, true_or, or_true, false_or, or_false, reduceIte, vin ht2, ncl ht2, uI_1, Nat.reduceEqDiff, false_and, hS.r23, (hH t ht).1]
  have := sp_tries (l := l) (D := D) (d := d + (8 - (gl M t nA).length)) hs ht2 hL wt (gl M t nA).length [] 0 (hdN M t) 1 0 0 none (uI M' 7 25 (-1)) (fun r h' => o_vret Q [.ref (ob 7 0), .int (nI t), .int (if wt = true then 1 else 0)] (r ++ []) h' 0 0)
    (by simp) (lft_all _) (by omega) (hH t ht).2 (by omega) (by simp) (by simp) (hS.w _ rfl) (by rw [uI_1, if_neg (by omega)]; exact g1) (fun i hi => by rw [uI_1, if_neg (by omega)]; exact g2 i hi) (fun j hj => by simp at hj) (by show (uI M' 7 25 (-1)).1 7 25 = -1; rw [uI_1, if_pos ⟨rfl, rfl⟩]) (fun M'' f0 f1 f2 f3 f4 => ?_)
  · rw [show d + (8 - (gl M t nA).length) + (gl M t nA).length + 3 = d + 11 by omega] at this
    exact this
  · show Q [] (pm c M'')
    obtain ⟨a1, a2, a3⟩ := f4
    have e0 : (if wt = true then 0 + (gl M t nA).length * 0 else 0) = 0 := by split <;> simp
    rw [e0] at a1
    refine H M'' f0 f1 (by rw [a1]; show nI (0 + _) = _; rw [Nat.zero_add]; rfl) (fun j hj => by rw [a3 j hj]; rfl)
theorem sp_order (hs : SKM c) {nT nA : Nat} (hT : M.1 7 1 = nI nT) (hA : M.1 7 8 = nI nA) (hA2 : nA ≤ 150) (hT2 : nT ≤ 12) (hG : GA M nT nA) (hH : GH M nT) (x y : Int32) (H : ∀ r M', SC M M' → ((∃ t i, t < nT ∧ x = nI t ∧ i < (gl M t nA).length ∧ y = nI i ∧ r = nI (oS M t nA i)) ∨ ((∀ t i, t < nT → x = nI t → i < (gl M t nA).length → ¬ y = nI i) ∧ r = -1)) → Q [.int r] (pm c M')) : K_X7_order l D (d + 13) [.ref (ob 7 0), .int x, .int y] (pm c M) Q := by
  refine m_X7_order (lsA := [.ref (ob 7 0), .int x, .int y]) rfl (Nat.le_of_ble_eq_true rfl) ?_
  intro X h0 h15 h44 h45
  have hsc : SC M (uI M 7 0 0) := (SC.rf M).w 0 rfl
  apply h0
  simp only [B_X7_order_0, o_al, o_ic, o_pI, o_il, o_if, o_iret, nth_0, nth_1, opV_1, al_7, ix_7, hs.a7, wm_7, wmJ_7, cats_nil, cats_cons, rf_s, rf_n, isR_r, isR_n, isR_rf, cat_i, cat_l, cat_r, cat_n, cat_rf, unl_i, unl_l, unl_r, unl_n, unl_j, unl_rf, orf_r, orf_n, orf_rf, rf_null, mA_pm, mL_pm, mP_pm, List.length_cons, List.length_nil, List.cons_append, List.nil_append, Nat.reduceAdd, Nat.reduceLeDiff, Nat.reduceLT, Nat.reduceEqDiff, Nat.zero_add, Nat.add_zero, Nat.le_refl, Nat.zero_le, true_and, and_true, true_or, or_true, false_or, or_false, reduceIte]
  refine sp_isTape hs _ ?_
  simp only [o_al, o_ic, o_pI, o_il, o_if, o_iret, nth_0, nth_1, opV_1, al_7, ix_7, hs.a7, wm_7, wmJ_7, cats_nil, cats_cons, rf_s, rf_n, isR_r, isR_n, isR_rf, cat_i, cat_l, cat_r, cat_n, cat_rf, unl_i, unl_l, unl_r, unl_n, unl_j, unl_rf, orf_r, orf_n, orf_rf, rf_null, mA_pm, mL_pm, mP_pm, List.length_cons, List.length_nil, List.cons_append, List.nil_append, Nat.reduceAdd, Nat.reduceLeDiff, Nat.reduceLT, Nat.reduceEqDiff, Nat.zero_add, Nat.add_zero, Nat.le_refl, Nat.zero_le, true_and, and_true, true_or, or_true, false_or, or_false, reduceIte, uI_1, hT, Nat.reduceEqDiff, and_false]
  refine ⟨fun q => H _ _ hsc (Or.inr ⟨fun t i h1 h2 => absurd (by rw [h2]; exact in_nI' h1 (by omega)) (bi_e0 q), rfl⟩), fun q => ?_⟩
  obtain ⟨t, ht, rfl⟩ := in_nI (by omega) (bi_ne0 q)
  have hn := gl_len M t nA
  apply h15
  simp only [B_X7_order_15, o_al, o_il, o_ic, o_gf, o_ii, o_if, o_iald, nth_0, nth_1, nth_2, opV_2, opS_3, mV_7_22, al_7, hs.a7, rm_7, ix_7, mV_7_24, hs.p24, kd_34, ix_34, hs.l34, rm_34, wm_34, cats_nil, cats_cons, rf_s, rf_n, isR_r, isR_n, isR_rf, cat_i, cat_l, cat_r, cat_n, cat_rf, unl_i, unl_l, unl_r, unl_n, unl_j, unl_rf, orf_r, orf_n, orf_rf, rf_null, mA_pm, mL_pm, mP_pm, List.length_cons, List.length_nil, List.cons_append, List.nil_append, Nat.reduceAdd, Nat.reduceLeDiff, Nat.reduceLT, Nat.reduceEqDiff, Nat.zero_add, Nat.add_zero, Nat.le_refl, Nat.zero_le, true_and, and_true, true_or, or_true, false_or, or_false, reduceIte]
  refine sp_orders hs (M := uI M 7 0 0) (wt := false) (nA := nA) (nT := nT) hA hA2 hT2 ht (GA_sc hsc hG) (GH_sc hsc hH) (fun M' hS g1 g2 g3 => ?_)
  rw [gl_sc hsc] at g1 g3
  simp only [o_al, o_il, o_ic, o_gf, o_ii, o_if, o_iald, nth_0, nth_1, nth_2, opV_2, opS_3, mV_7_22, al_7, hs.a7, rm_7, ix_7, mV_7_24, hs.p24, kd_34, ix_34, hs.l34, rm_34, wm_34, cats_nil, cats_cons, rf_s, rf_n, isR_r, isR_n, isR_rf, cat_i, cat_l, cat_r, cat_n, cat_rf, unl_i, unl_l, unl_r, unl_n, unl_j, unl_rf, orf_r, orf_n, orf_rf, rf_null, mA_pm, mL_pm, mP_pm, List.length_cons, List.length_nil, List.cons_append, List.nil_append, Nat.reduceAdd, Nat.reduceLeDiff, Nat.reduceLT, Nat.reduceEqDiff, Nat.zero_add, Nat.add_zero, Nat.le_refl, Nat.zero_le, true_and, and_true, true_or, or_true, false_or, or_false, reduceIte, g1]
  refine sp_within _ _ _ _ ?_
  simp only [o_al, o_il, o_ic, o_gf, o_ii, o_if, o_iald, nth_0, nth_1, nth_2, opV_2, opS_3, mV_7_22, al_7, hs.a7, rm_7, ix_7, mV_7_24, hs.p24, kd_34, ix_34, hs.l34, rm_34, wm_34, cats_nil, cats_cons, rf_s, rf_n, isR_r, isR_n, isR_rf, cat_i, cat_l, cat_r, cat_n, cat_rf, unl_i, unl_l, unl_r, unl_n, unl_j, unl_rf, orf_r, orf_n, orf_rf, rf_null, mA_pm, mL_pm, mP_pm, List.length_cons, List.length_nil, List.cons_append, List.nil_append, Nat.reduceAdd, Nat.reduceLeDiff, Nat.reduceLT, Nat.reduceEqDiff, Nat.zero_add, Nat.add_zero, Nat.le_refl, Nat.zero_le, true_and, and_true, true_or, or_true, false_or, or_false, reduceIte]
  refine ⟨fun q2 => ?_, fun q2 => ?_⟩
  · apply h44
    simp only [B_X7_order_44, o_ic, cats_nil, cats_cons, rf_s, rf_n, isR_r, isR_n, isR_rf, cat_i, cat_l, cat_r, cat_n, cat_rf, unl_i, unl_l, unl_r, unl_n, unl_j, unl_rf, orf_r, orf_n, orf_rf, rf_null, mA_pm, mL_pm, mP_pm, List.length_cons, List.length_nil, List.cons_append, List.nil_append, Nat.reduceAdd, Nat.reduceLeDiff, Nat.reduceLT, Nat.reduceEqDiff, Nat.zero_add, Nat.add_zero, Nat.le_refl, Nat.zero_le, true_and, and_true, true_or, or_true, false_or, or_false, reduceIte]
    apply h45
    simp only [B_X7_order_45, o_iret, cats_nil, cats_cons, rf_s, rf_n, isR_r, isR_n, isR_rf, cat_i, cat_l, cat_r, cat_n, cat_rf, unl_i, unl_l, unl_r, unl_n, unl_j, unl_rf, orf_r, orf_n, orf_rf, rf_null, mA_pm, mL_pm, mP_pm, List.length_cons, List.length_nil, List.cons_append, List.nil_append, Nat.reduceAdd, Nat.reduceLeDiff, Nat.reduceLT, Nat.reduceEqDiff, Nat.zero_add, Nat.add_zero, Nat.le_refl, Nat.zero_le, true_and, and_true, true_or, or_true, false_or, or_false, reduceIte]
    refine H _ _ (hsc.tr hS) (Or.inr ⟨fun t' i h1 h2 h3 h4 => ?_, rfl⟩)
    rw [nI_eq_iff] at h2
    rw [← h2] at h3
    exact bi_e0 q2 (by rw [h4]; exact in_nI' h3 (by omega))
  · obtain ⟨i, hi, rfl⟩ := in_nI (by omega) (bi_ne0 q2)
    have hi8 : i < 8 := by omega
    simp only [o_al, o_il, o_ic, o_gf, o_ii, o_if, o_iald, nth_0, nth_1, nth_2, opV_2, opS_3, mV_7_22, al_7, hs.a7, rm_7, ix_7, mV_7_24, hs.p24, kd_34, ix_34, hs.l34, rm_34, wm_34, cats_nil, cats_cons, rf_s, rf_n, isR_r, isR_n, isR_rf, cat_i, cat_l, cat_r, cat_n, cat_rf, unl_i, unl_l, unl_r, unl_n, unl_j, unl_rf, orf_r, orf_n, orf_rf, rf_null, mA_pm, mL_pm, mP_pm, List.length_cons, List.length_nil, List.cons_append, List.nil_append, Nat.reduceAdd, Nat.reduceLeDiff, Nat.reduceLT, Nat.reduceEqDiff, Nat.zero_add, Nat.add_zero, Nat.le_refl, Nat.zero_le, true_and, and_true, true_or, or_true, false_or, or_false, reduceIte, vin hi8, ncl hi8, g3 i hi]
    apply h45
    simp only [B_X7_order_45, o_iret, cats_nil, cats_cons, rf_s, rf_n, isR_r, isR_n, isR_rf, cat_i, cat_l, cat_r, cat_n, cat_rf, unl_i, unl_l, unl_r, unl_n, unl_j, unl_rf, orf_r, orf_n, orf_rf, rf_null, mA_pm, mL_pm, mP_pm, List.length_cons, List.length_nil, List.cons_append, List.nil_append, Nat.reduceAdd, Nat.reduceLeDiff, Nat.reduceLT, Nat.reduceEqDiff, Nat.zero_add, Nat.add_zero, Nat.le_refl, Nat.zero_le, true_and, and_true, true_or, or_true, false_or, or_false, reduceIte]
    refine H _ _ (hsc.tr hS) (Or.inl ⟨t, i, ht, rfl, hi, rfl, ?_⟩)
    rw [oV_sc hsc, oL_sc hsc]
    rfl
theorem sp_told (hs : SKM c) {nT nA : Nat} (hT : M.1 7 1 = nI nT) (hA : M.1 7 8 = nI nA) (hA2 : nA ≤ 150) (hT2 : nT ≤ 12) (hG : GA M nT nA) (hH : GH M nT) (x w : Int32) (H : ∀ r M', SC M M' → ((∃ t, t < nT ∧ x = nI t ∧ ((w = 0 ∧ r = nI (oV M t nA false).1) ∨ (w = 1 ∧ r = nI (oW M t nA)) ∨ (w = 2 ∧ r = nI (oV M t nA true).1))) ∨ (((∀ t, t < nT → ¬ x = nI t) ∨ ¬ (0 ≤ w ∧ w ≤ 2)) ∧ r = -1)) → Q [.int r] (pm c M')) : K_X7_told l D (d + 13) [.ref (ob 7 0), .int x, .int w] (pm c M) Q := by
  refine m_X7_told (lsA := [.ref (ob 7 0), .int x, .int w, jk, jk, jk, jk, jk]) rfl (Nat.le_of_ble_eq_true rfl) ?_
  intro X h0 h22 h24 h35 h36 h49 h68 h127
  have hsc : SC M (uI M 7 0 0) := (SC.rf M).w 0 rfl
  have k22 : ∀ ls, ((∀ t, t < nT → ¬ x = nI t) ∨ ¬ (0 ≤ w ∧ w ≤ 2)) → X 22 ls [] (pm c (uI M 7 0 0)) 0 0 := by
    intro ls q
    apply h22
    simp only [B_X7_told_22, o_ic, o_iret, cats_nil, cats_cons, rf_s, rf_n, isR_r, isR_n, isR_rf, cat_i, cat_l, cat_r, cat_n, cat_rf, unl_i, unl_l, unl_r, unl_n, unl_j, unl_rf, orf_r, orf_n, orf_rf, rf_null, mA_pm, mL_pm, mP_pm, List.length_cons, List.length_nil, List.cons_append, List.nil_append, Nat.reduceAdd, Nat.reduceLeDiff, Nat.reduceLT, Nat.reduceEqDiff, Nat.zero_add, Nat.add_zero, Nat.le_refl, Nat.zero_le, true_and, and_true, true_or, or_true, false_or, or_false, reduceIte]
    exact H _ _ hsc (Or.inr ⟨q, rfl⟩)
  apply h0
  simp only [B_X7_told_0, o_al, o_ic, o_pI, o_il, o_if, nth_0, nth_1, nth_2, opV_1, opS_3, al_7, ix_7, hs.a7, wm_7, wmJ_7, cats_nil, cats_cons, rf_s, rf_n, isR_r, isR_n, isR_rf, cat_i, cat_l, cat_r, cat_n, cat_rf, unl_i, unl_l, unl_r, unl_n, unl_j, unl_rf, orf_r, orf_n, orf_rf, rf_null, mA_pm, mL_pm, mP_pm, List.length_cons, List.length_nil, List.cons_append, List.nil_append, Nat.reduceAdd, Nat.reduceLeDiff, Nat.reduceLT, Nat.reduceEqDiff, Nat.zero_add, Nat.add_zero, Nat.le_refl, Nat.zero_le, true_and, and_true, true_or, or_true, false_or, or_false, reduceIte]
  refine sp_isTape hs _ ?_
  simp only [o_al, o_ic, o_pI, o_il, o_if, nth_0, nth_1, nth_2, opV_1, opS_3, al_7, ix_7, hs.a7, wm_7, wmJ_7, cats_nil, cats_cons, rf_s, rf_n, isR_r, isR_n, isR_rf, cat_i, cat_l, cat_r, cat_n, cat_rf, unl_i, unl_l, unl_r, unl_n, unl_j, unl_rf, orf_r, orf_n, orf_rf, rf_null, mA_pm, mL_pm, mP_pm, List.length_cons, List.length_nil, List.cons_append, List.nil_append, Nat.reduceAdd, Nat.reduceLeDiff, Nat.reduceLT, Nat.reduceEqDiff, Nat.zero_add, Nat.add_zero, Nat.le_refl, Nat.zero_le, true_and, and_true, true_or, or_true, false_or, or_false, reduceIte, uI_1, hT, Nat.reduceEqDiff, and_false]
  refine ⟨fun q => k22 _ (Or.inl (fun t h1 h2 => bi_e0 q (by rw [h2]; exact in_nI' h1 (by omega)))), fun q => ?_⟩
  obtain ⟨t, ht, rfl⟩ := in_nI (by omega) (bi_ne0 q)
  have ht2 : t < 12 := by omega
  refine sp_within _ _ _ _ ?_
  simp only [o_al, o_ic, o_pI, o_il, o_if, nth_0, nth_1, nth_2, opV_1, opS_3, al_7, ix_7, hs.a7, wm_7, wmJ_7, cats_nil, cats_cons, rf_s, rf_n, isR_r, isR_n, isR_rf, cat_i, cat_l, cat_r, cat_n, cat_rf, unl_i, unl_l, unl_r, unl_n, unl_j, unl_rf, orf_r, orf_n, orf_rf, rf_null, mA_pm, mL_pm, mP_pm, List.length_cons, List.length_nil, List.cons_append, List.nil_append, Nat.reduceAdd, Nat.reduceLeDiff, Nat.reduceLT, Nat.reduceEqDiff, Nat.zero_add, Nat.add_zero, Nat.le_refl, Nat.zero_le, true_and, and_true, true_or, or_true, false_or, or_false, reduceIte]
  refine ⟨fun q2 => k22 _ (Or.inr (bi_e0 q2)), fun q2 => ?_⟩
  have hn := gl_len M t nA
  have hV0 := oV_le (t := t) (wt := false) hG hT2 (hH t ht).2
  have hw : w = nI 0 ∨ w = nI 1 ∨ w = nI 2 := by
    obtain ⟨j, hj, rfl⟩ := in_nI (n := 3) (by omega) (bi_ne0 q2)
    have : j = 0 ∨ j = 1 ∨ j = 2 := by omega
    rcases this with rfl | rfl | rfl <;> simp
  have k36 : ∀ wt : Bool, (wt = true ↔ w = 2) → X 36 [.ref (ob 7 0), .int (nI t), .int w, jk, jk, jk, jk, jk] [.int (if wt = true then 1 else 0), .int (nI t), .ref (ob 7 0)] (pm c (uI M 7 0 0)) 0 0 := by
    intro wt hwt
    apply h36
    simp only [B_X7_told_36, o_il, o_ic, o_ic2, o_al, o_gf, o_iret, nth_2, nth_0, opV_2, mV_7_25, al_7, hs.a7, rm_7, ix_7, cats_nil, cats_cons, rf_s, rf_n, isR_r, isR_n, isR_rf, cat_i, cat_l, cat_r, cat_n, cat_rf, unl_i, unl_l, unl_r, unl_n, unl_j, unl_rf, orf_r, orf_n, orf_rf, rf_null, mA_pm, mL_pm, mP_pm, List.length_cons, List.length_nil, List.cons_append, List.nil_append, Nat.reduceAdd, Nat.reduceLeDiff, Nat.reduceLT, Nat.reduceEqDiff, Nat.zero_add, Nat.add_zero, Nat.le_refl, Nat.zero_le, true_and, and_true, true_or, or_true, false_or, or_false, reduceIte]
    refine sp_orders hs (M := uI M 7 0 0) (wt := wt) (nA := nA) (nT := nT) hA hA2 hT2 ht (GA_sc hsc hG) (GH_sc hsc hH) (fun M' hS g1 g2 g3 => ?_)
    rw [gl_sc hsc] at g1 g3
    rw [oV_sc hsc] at g2
    have hS2 := hsc.tr hS
    simp only [o_il, o_ic, o_ic2, o_al, o_gf, o_iret, nth_2, nth_0, opV_2, mV_7_25, al_7, hs.a7, rm_7, ix_7, cats_nil, cats_cons, rf_s, rf_n, isR_r, isR_n, isR_rf, cat_i, cat_l, cat_r, cat_n, cat_rf, unl_i, unl_l, unl_r, unl_n, unl_j, unl_rf, orf_r, orf_n, orf_rf, rf_null, mA_pm, mL_pm, mP_pm, List.length_cons, List.length_nil, List.cons_append, List.nil_append, Nat.reduceAdd, Nat.reduceLeDiff, Nat.reduceLT, Nat.reduceEqDiff, Nat.zero_add, Nat.add_zero, Nat.le_refl, Nat.zero_le, true_and, and_true, true_or, or_true, false_or, or_false, reduceIte, hs.a7, al_7]
    refine ⟨fun q3 => ?_, fun q3 => ?_⟩
    · have hwf : wt = false := by
        cases wt with
        | false => rfl
        | true => rw [hwt.mp rfl] at q3; exact absurd q3 (by decide)
      subst hwf
      have g3' : ∀ j, j < (gl M t nA).length → M'.1 34 j = nI (oS M t nA j) := fun j hj => by rw [g3 j hj, oV_sc hsc, oL_sc hsc]; rfl
      have hO := oV_len (M := M) (t := t) (nA := nA) (wt := false)
      have loop : ∀ m k M1 hh v cs sm', k + m = (gl M t nA).length → SC M M1 → M1.1 7 22 = nI (gl M t nA).length → (∀ j, j < (gl M t nA).length → M1.1 34 j = nI (oS M t nA j)) → hh < 60 → v < 3 → cs ≤ k * 128 → sm' ≤ k * 1024 → sm' + wS (fun i => frN M (oL M t nA i)) (fun i => toN M (oL M t nA i)) hh v cs ((oV M t nA false).2.drop k) = oW M t nA →
          X 68 [.ref (ob 7 0), .int (nI t), .int w, .int (nI hh), .int (nI v - 1), .int (nI cs), .int (nI sm'), .int (nI k)] [] (pm c M1) 0 0 := by
        intro m
        induction m with
        | zero =>
          intro k M1 hh v cs sm' hk f0 f1 f2 f3 f4 f5 f6 f7
          apply h68
          simp only [B_X7_told_68, o_il, o_al, o_gf, o_ic2, o_iald, o_ii, o_is, o_inc, nth_7, nth_0, nth_5, nth_3, nth_4, lset_5, lset_4, lset_3, nth_6, lset_6, lset_7, opV_3, opV_1, mV_7_22, al_7, hs.a7, rm_7, ix_7, mV_7_24, hs.p24, kd_34, ix_34, hs.l34, rm_34, wm_34, mV_7_20, cats_nil, cats_cons, rf_s, rf_n, isR_r, isR_n, isR_rf, cat_i, cat_l, cat_r, cat_n, cat_rf, unl_i, unl_l, unl_r, unl_n, unl_j, unl_rf, orf_r, orf_n, orf_rf, rf_null, mA_pm, mL_pm, mP_pm, List.length_cons, List.length_nil, List.cons_append, List.nil_append, Nat.reduceAdd, Nat.reduceLeDiff, Nat.reduceLT, Nat.reduceEqDiff, Nat.zero_add, Nat.add_zero, Nat.le_refl, Nat.zero_le, true_and, and_true, true_or, or_true, false_or, or_false, reduceIte, f1]
          refine ⟨fun _ => ?_, fun z => absurd (nI_le (by omega) (by omega)) z⟩
          apply h127
          simp only [B_X7_told_127, o_il, o_iret, nth_6, cats_nil, cats_cons, rf_s, rf_n, isR_r, isR_n, isR_rf, cat_i, cat_l, cat_r, cat_n, cat_rf, unl_i, unl_l, unl_r, unl_n, unl_j, unl_rf, orf_r, orf_n, orf_rf, rf_null, mA_pm, mL_pm, mP_pm, List.length_cons, List.length_nil, List.cons_append, List.nil_append, Nat.reduceAdd, Nat.reduceLeDiff, Nat.reduceLT, Nat.reduceEqDiff, Nat.zero_add, Nat.add_zero, Nat.le_refl, Nat.zero_le, true_and, and_true, true_or, or_true, false_or, or_false, reduceIte]
          refine H _ _ f0 (Or.inl ⟨t, ht, rfl, Or.inr (Or.inl ⟨q3, ?_⟩)⟩)
          rw [List.drop_eq_nil_of_le (by rw [hO.1]; omega)] at f7
          rw [← f7]
          rfl
        | succ m ih =>
          intro k M1 hh v cs sm' hk f0 f1 f2 f3 f4 f5 f6 f7
          have hk8 : k < 8 := by omega
          have hkl : k < (gl M t nA).length := by omega
          have hko : k < (oV M t nA false).2.length := by rw [hO.1]; exact hkl
          obtain ⟨i, hi⟩ : ∃ i, i = (oV M t nA false).2.getD k 0 := ⟨_, rfl⟩
          have hie : (oV M t nA false).2[k] = i := by rw [hi, List.getD_eq_getElem?_getD, List.getElem?_eq_getElem hko]; rfl
          have hil : i < (gl M t nA).length := hO.2 i (by rw [← hie]; exact List.getElem_mem hko)
          have hoi : oS M t nA k = oL M t nA i := by unfold oS; rw [← hi]
          obtain ⟨a1, a2, a3⟩ := oL_mem hil
          obtain ⟨t', p, b1, b2, b3, b4, b5, b6, b7, b8⟩ := hG _ a1
          have hd1 : (oV M t nA false).2.drop k = i :: (oV M t nA false).2.drop (k + 1) := by rw [← hie]; exact List.drop_eq_getElem_cons hko
          rw [hd1] at f7
          have c1 : costF (fromF M1 (oL M t nA i)) (toF M1 (oL M t nA i)) (nI hh) (nI v - 1) = nI (cN (frN M (oL M t nA i)) (toN M (oL M t nA i)) hh v) := by rw [fromF_sc f0, toF_sc f0, b3, b4]; exact costF_N b5 (by omega) f3 f4
          have c2 : wayF (fromF M1 (oL M t nA i)) (toF M1 (oL M t nA i)) (nI hh) (nI v - 1) = nI (wyN (frN M (oL M t nA i)) (toN M (oL M t nA i)) hh v) - 1 := by rw [fromF_sc f0, toF_sc f0, b3, b4]; exact wayF_N (by omega) (by omega) f3 f4
          have c3 := cN_lt (f := frN M (oL M t nA i)) (g := toN M (oL M t nA i)) (h := hh) (v := v) (by omega) (by omega) f3
          have hS1 : SC M1 (uI M1 7 20 (nI (wyN (frN M (oL M t nA i)) (toN M (oL M t nA i)) hh v) - 1)) := (SC.rf M1).w _ rfl
          apply h68
          simp only [B_X7_told_68, o_il, o_al, o_gf, o_ic2, o_iald, o_ii, o_is, o_inc, nth_7, nth_0, nth_5, nth_3, nth_4, lset_5, lset_4, lset_3, nth_6, lset_6, lset_7, opV_3, opV_1, mV_7_22, al_7, hs.a7, rm_7, ix_7, mV_7_24, hs.p24, kd_34, ix_34, hs.l34, rm_34, wm_34, mV_7_20, cats_nil, cats_cons, rf_s, rf_n, isR_r, isR_n, isR_rf, cat_i, cat_l, cat_r, cat_n, cat_rf, unl_i, unl_l, unl_r, unl_n, unl_j, unl_rf, orf_r, orf_n, orf_rf, rf_null, mA_pm, mL_pm, mP_pm, List.length_cons, List.length_nil, List.cons_append, List.nil_append, Nat.reduceAdd, Nat.reduceLeDiff, Nat.reduceLT, Nat.reduceEqDiff, Nat.zero_add, Nat.add_zero, Nat.le_refl, Nat.zero_le, true_and, and_true, true_or, or_true, false_or, or_false, reduceIte, f1, f2 k hkl, vin hk8, ncl hk8, hoi]
          refine ⟨fun z => absurd z (by rw [nI_le_iff]; omega), fun _ => ?_⟩
          refine sp_costOf hs (by omega) ht2 (by rw [f0.r26]; exact a2) _ _ ?_
          rw [c1, c2]
          simp only [o_il, o_al, o_gf, o_ic2, o_iald, o_ii, o_is, o_inc, nth_7, nth_0, nth_5, nth_3, nth_4, lset_5, lset_4, lset_3, nth_6, lset_6, lset_7, opV_3, opV_1, mV_7_22, al_7, hs.a7, rm_7, ix_7, mV_7_24, hs.p24, kd_34, ix_34, hs.l34, rm_34, wm_34, mV_7_20, cats_nil, cats_cons, rf_s, rf_n, isR_r, isR_n, isR_rf, cat_i, cat_l, cat_r, cat_n, cat_rf, unl_i, unl_l, unl_r, unl_n, unl_j, unl_rf, orf_r, orf_n, orf_rf, rf_null, mA_pm, mL_pm, mP_pm, List.length_cons, List.length_nil, List.cons_append, List.nil_append, Nat.reduceAdd, Nat.reduceLeDiff, Nat.reduceLT, Nat.reduceEqDiff, Nat.zero_add, Nat.add_zero, Nat.le_refl, Nat.zero_le, true_and, and_true, true_or, or_true, false_or, or_false, reduceIte, uI_1, Nat.reduceEqDiff, and_false, false_and, f2 k hkl, vin hk8, ncl hk8, hoi, nI_add]
          refine sp_toOf hs (by omega) ht2 (by rw [hS1.r26, f0.r26]; exact a2) ?_
          rw [toF_sc hS1, toF_sc f0, b4]
          simp only [o_il, o_al, o_gf, o_ic2, o_iald, o_ii, o_is, o_inc, nth_7, nth_0, nth_5, nth_3, nth_4, lset_5, lset_4, lset_3, nth_6, lset_6, lset_7, opV_3, opV_1, mV_7_22, al_7, hs.a7, rm_7, ix_7, mV_7_24, hs.p24, kd_34, ix_34, hs.l34, rm_34, wm_34, mV_7_20, cats_nil, cats_cons, rf_s, rf_n, isR_r, isR_n, isR_rf, cat_i, cat_l, cat_r, cat_n, cat_rf, unl_i, unl_l, unl_r, unl_n, unl_j, unl_rf, orf_r, orf_n, orf_rf, rf_null, mA_pm, mL_pm, mP_pm, List.length_cons, List.length_nil, List.cons_append, List.nil_append, Nat.reduceAdd, Nat.reduceLeDiff, Nat.reduceLT, Nat.reduceEqDiff, Nat.zero_add, Nat.add_zero, Nat.le_refl, Nat.zero_le, true_and, and_true, true_or, or_true, false_or, or_false, reduceIte, nI_add, nI_1]
          exact ih (k + 1) _ _ _ _ _ (by omega) (f0.tr hS1) (by rw [uI_1, if_neg (by omega)]; exact f1) (fun j hj => by rw [uI_1, if_neg (by omega)]; exact f2 j hj) (by omega) (wyN_lt f4) (by omega) (by omega) (by rw [← f7]; simp only [wS]; omega)
      apply h49
      simp only [B_X7_told_49, o_al, o_gf, o_il, o_iald, o_is, o_ic, nth_0, nth_1, lset_3, lset_4, lset_5, lset_6, lset_7, mV_7_5, al_7, hs.a7, hs.p5, kd_23, ix_23, hs.l23, rm_23, wm_23, ix_7, cats_nil, cats_cons, rf_s, rf_n, isR_r, isR_n, isR_rf, cat_i, cat_l, cat_r, cat_n, cat_rf, unl_i, unl_l, unl_r, unl_n, unl_j, unl_rf, orf_r, orf_n, orf_rf, rf_null, mA_pm, mL_pm, mP_pm, List.length_cons, List.length_nil, List.cons_append, List.nil_append, Nat.reduceAdd, Nat.reduceLeDiff, Nat.reduceLT, Nat.reduceEqDiff, Nat.zero_add, Nat.add_zero, Nat.le_refl, Nat.zero_le, true_and, and_true, true_or, or_true, false_or, or_false, reduceIte, vin ht2, ncl ht2, hS2.r23, (hH t ht).1]
      refine loop (gl M t nA).length 0 M' (hdN M t) 1 0 0 (by omega) hS2 g1 g3' (hH t ht).2 (by omega) (by omega) (by omega) ?_
      rw [Nat.zero_add]
      rfl
    · refine H _ _ hS2 (Or.inl ⟨t, ht, rfl, ?_⟩)
      rcases hw with rfl | rfl | rfl
      · have hwf : wt = false := by
          cases wt with
          | false => rfl
          | true => exact absurd (hwt.mp rfl) (by decide)
        rw [hwf] at g2
        exact Or.inl ⟨rfl, g2⟩
      · exact absurd rfl q3
      · rw [hwt.mpr rfl] at g2
        exact Or.inr (Or.inr ⟨rfl, g2⟩)
  apply h24
  simp only [B_X7_told_24, o_al, o_il, o_ic, o_ic2, nth_0, nth_1, nth_2, cats_nil, cats_cons, rf_s, rf_n, isR_r, isR_n, isR_rf, cat_i, cat_l, cat_r, cat_n, cat_rf, unl_i, unl_l, unl_r, unl_n, unl_j, unl_rf, orf_r, orf_n, orf_rf, rf_null, mA_pm, mL_pm, mP_pm, List.length_cons, List.length_nil, List.cons_append, List.nil_append, Nat.reduceAdd, Nat.reduceLeDiff, Nat.reduceLT, Nat.reduceEqDiff, Nat.zero_add, Nat.add_zero, Nat.le_refl, Nat.zero_le, true_and, and_true, true_or, or_true, false_or, or_false, reduceIte]
  refine ⟨fun q3 => k36 true (by simp [q3]), fun q3 => ?_⟩
  apply h35
  simp only [B_X7_told_35, o_ic, cats_nil, cats_cons, rf_s, rf_n, isR_r, isR_n, isR_rf, cat_i, cat_l, cat_r, cat_n, cat_rf, unl_i, unl_l, unl_r, unl_n, unl_j, unl_rf, orf_r, orf_n, orf_rf, rf_null, mA_pm, mL_pm, mP_pm, List.length_cons, List.length_nil, List.cons_append, List.nil_append, Nat.reduceAdd, Nat.reduceLeDiff, Nat.reduceLT, Nat.reduceEqDiff, Nat.zero_add, Nat.add_zero, Nat.le_refl, Nat.zero_le, true_and, and_true, true_or, or_true, false_or, or_false, reduceIte]
  exact k36 false (by simp [q3])
end ZM7
