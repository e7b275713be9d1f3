/-! The class: plans, their tables -/
def us (x y : Int32) : Int32 := (x.toUInt32 >>> (y.toUInt32 &&& Int32.toUInt32 31)).toInt32
def bc1 (x : Int32) : Int32 := x - (us x 1 &&& 1431655765)
def bc2 (x : Int32) : Int32 := (bc1 x &&& 858993459) + (us (bc1 x) 2 &&& 858993459)
def bc3 (x : Int32) : Int32 := (bc2 x + us (bc2 x) 4) &&& 252645135
def bc4 (x : Int32) : Int32 := bc3 x + us (bc3 x) 8
def bc5 (x : Int32) : Int32 := bc4 x + us (bc4 x) 16
def bcF (x : Int32) : Int32 := bc5 x &&& 63
theorem bc_l : ∀ n, n < 9 → ∀ u, u < 256 → u < 2 ^ n → nI n - bcF (nI u) = nI (lft u n) := by decide +kernel
/-- equal but where numbers may be written -/
def FRI (w : Nat → Nat → Nat → Prop) (c c' : HP) : Prop := c'.1 = c.1 ∧ c'.2.1 = c.2.1 ∧ c'.2.2.2 = c.2.2.2 ∧ ∀ k i j, ¬ w k i j → mI c' k i j = mI c k i j
theorem FRI.rf (w : Nat → Nat → Nat → Prop) (c : HP) : FRI w c c := ⟨rfl, rfl, rfl, fun _ _ _ _ => rfl⟩
theorem FRI.tr {w : Nat → Nat → Nat → Prop} {c c1 c2 : HP} (h : FRI w c c1) (g : FRI w c1 c2) : FRI w c c2 := ⟨g.1.trans h.1, g.2.1.trans h.2.1, g.2.2.1.trans h.2.2.1, fun k i j q => (g.2.2.2 k i j q).trans (h.2.2.2 k i j q)⟩
theorem FRI.mo {w w' : Nat → Nat → Nat → Prop} {c c1 : HP} (h : FRI w c c1) (g : ∀ k i j, w k i j → w' k i j) : FRI w' c c1 := ⟨h.1, h.2.1, h.2.2.1, fun k i j q => h.2.2.2 k i j (fun z => q (g k i j z))⟩
theorem FRI.w {w : Nat → Nat → Nat → Prop} {c c1 : HP} (h : FRI w c c1) {k i j : Nat} (x : Int32) (g : w k i j) : FRI w c (wI c1 k i j x) := ⟨h.1, h.2.1, h.2.2.1, fun a b e q => by
  rw [mI_wI, if_neg (fun z => q (by rw [z.1, z.2.1, z.2.2]; exact g))]
  exact h.2.2.2 a b e q⟩
theorem FRI.sk {w : Nat → Nat → Nat → Prop} {c c1 : HP} (h : FRI w c c1) (g : SKF c) : SKF c1 := by
  unfold SKF at g ⊢
  rw [h.1, h.2.1, h.2.2.1]
  exact g
theorem FRI.A {w : Nat → Nat → Nat → Prop} {c c1 : HP} (h : FRI w c c1) (k j : Nat) : mA c1 k j = mA c k j := by unfold mA; rw [h.1]
theorem FRI.L {w : Nat → Nat → Nat → Prop} {c c1 : HP} (h : FRI w c c1) (k j : Nat) : mL c1 k j = mL c k j := by unfold mL; rw [h.2.1]
theorem FRI.J {w : Nat → Nat → Nat → Prop} {c c1 : HP} (h : FRI w c c1) (k i j : Nat) : mJ c1 k i j = mJ c k i j := by unfold mJ; rw [h.2.2.1]
theorem FRI.P {w : Nat → Nat → Nat → Prop} {c c1 : HP} (h : FRI w c c1) (k i j : Nat) : mP c1 k i j = mP c k i j := by unfold mP; rw [h.2.2.1]
theorem FRI.I {w : Nat → Nat → Nat → Prop} {c c1 : HP} (h : FRI w c c1) {k i j : Nat} (q : ¬ w k i j) : mI c1 k i j = mI c k i j := h.2.2.2 k i j q
/-- a plan's asks -/
def PD (c : HP) (n hd : Nat) (fr to : Nat → Nat) : Prop := n ≤ 8 ∧ hd < 60 ∧ mI c 2 9 0 = nI n ∧ mI c 2 8 0 = nI hd ∧ ∀ i, i < n → mI c 9 i 0 = nI (fr i) ∧ mI c 10 i 0 = nI (to i) ∧ fr i ≤ to i ∧ to i < 60
theorem PD.fr {w : Nat → Nat → Nat → Prop} {c c1 : HP} {n hd : Nat} {fr to : Nat → Nat} (h : PD c n hd fr to) (g : FRI w c c1) (q : ∀ k i j, w k i j → (k = 2 → ¬ i = 9 ∧ ¬ i = 8) ∧ ¬ k = 9 ∧ ¬ k = 10) : PD c1 n hd fr to :=
  ⟨h.1, h.2.1, by rw [g.I (fun z => ((q _ _ _ z).1 rfl).1 rfl)]; exact h.2.2.1, by rw [g.I (fun z => ((q _ _ _ z).1 rfl).2 rfl)]; exact h.2.2.2.1, fun i hi => by rw [g.I (fun z => (q _ _ _ z).2.1 rfl), g.I (fun z => (q _ _ _ z).2.2 rfl)]; exact h.2.2.2.2 i hi⟩
/-- a state's place and way (ways as 0, 1, 2), and which states there are -/
def plS (hd : Nat) (to : Nat → Nat) (s : Nat) : Nat := if s = 24 then hd else to (s / 3)
def wyS (s : Nat) : Nat := if s = 24 then 1 else s % 3
def clP (hd : Nat) (fr to : Nat → Nat) (i w : Nat) : Prop := w = 2 ∨ (fr i = to i ∧ (w = 0 ∨ fr i = hd))
def okS (n hd : Nat) (fr to : Nat → Nat) (s : Nat) : Prop := s = 24 ∨ (s < 24 ∧ s / 3 < n ∧ clP hd fr to (s / 3) (s % 3))
theorem wyS_lt (s : Nat) : wyS s < 3 := by unfold wyS; split <;> omega
theorem okS_next {n hd : Nat} {fr to : Nat → Nat} (hn : n ≤ 8) {s i : Nat} (hs : okS n hd fr to s) (hi : i < n) (hft : fr i ≤ to i) : okS n hd fr to (i * 3 + wyN (fr i) (to i) (plS hd to s) (wyS s)) ∧ (i * 3 + wyN (fr i) (to i) (plS hd to s) (wyS s)) / 3 = i ∧ (i * 3 + wyN (fr i) (to i) (plS hd to s) (wyS s)) % 3 = wyN (fr i) (to i) (plS hd to s) (wyS s) := by
  have hw := wyN_lt (f := fr i) (g := to i) (h := plS hd to s) (v := wyS s) (wyS_lt s)
  have e1 : (i * 3 + wyN (fr i) (to i) (plS hd to s) (wyS s)) / 3 = i := by omega
  have e2 : (i * 3 + wyN (fr i) (to i) (plS hd to s) (wyS s)) % 3 = wyN (fr i) (to i) (plS hd to s) (wyS s) := by omega
  refine ⟨Or.inr ⟨by omega, by omega, ?_⟩, e1, e2⟩
  rw [e1, e2]
  unfold clP
  by_cases h1 : to i ≤ fr i
  · have h2 : fr i = to i := by omega
    have e3 : wyN (fr i) (to i) (plS hd to s) (wyS s) = w1N (fr i) (plS hd to s) (wyS s) := if_pos h1
    rw [e3]
    unfold w1N
    by_cases h3 : fr i = plS hd to s
    · rw [if_pos h3]
      rcases hs with rfl | ⟨s1, s2, s3⟩
      · right
        exact ⟨h2, Or.inr h3⟩
      · have ew : wyS s = s % 3 := if_neg (by omega)
        have ep : plS hd to s = to (s / 3) := if_neg (by omega)
        rw [ew]
        rcases s3 with s3 | ⟨s3, s4 | s4⟩
        · exact Or.inl s3
        · exact Or.inr ⟨h2, Or.inl s4⟩
        · exact Or.inr ⟨h2, Or.inr (by omega)⟩
    · rw [if_neg h3]
      by_cases h4 : fr i ≤ plS hd to s
      · rw [if_pos h4]
        exact Or.inr ⟨h2, Or.inl rfl⟩
      · rw [if_neg h4]
        exact Or.inl rfl
  · have e3 : wyN (fr i) (to i) (plS hd to s) (wyS s) = 2 := if_neg h1
    exact Or.inl e3
/-- a state's rows are filled -/
def RF (c : HP) (n hd : Nat) (fr to : Nat → Nat) (s : Nat) : Prop := ∀ i, i < n → mI c 11 (s * 8 + i) 0 = nI (cN (fr i) (to i) (plS hd to s) (wyS s)) ∧ mI c 12 (s * 8 + i) 0 = nI (i * 3 + wyN (fr i) (to i) (plS hd to s) (wyS s))
section ZC4
variable {l : Launch} {D : DD} {d : Nat} {c : HP} {M : MD} {Q : List Value → HP → Prop}
theorem sp_bitCount (h : HP) (x : Int32) (H : Q [.int (bcF x)] h) : K_J6_bitCount_0f7a4 l D (d + 1) [.int x] h Q := by
  refine m_J6_bitCount_0f7a4 (lsA := [.int x]) rfl (Nat.le_of_ble_eq_true rfl) ?_
  intro X h0
  apply h0
  simp only [B_J6_bitCount_0f7a4_0, o_il, o_ic, o_ii, o_is, o_iret, nth_0, lset_0, cats_nil, cats_cons, rf_s, rf_n, isR_r, isR_n, isR_rf, cat_i, cat_l, cat_r, cat_n, cat_rf, unl_i, unl_l, unl_r, unl_n, unl_j, unl_rf, orf_r, orf_n, orf_rf, rf_null, mA_pm, mL_pm, mP_pm, List.length_cons, List.length_nil, List.cons_append, List.nil_append, Nat.reduceAdd, Nat.reduceLeDiff, Nat.reduceLT, Nat.reduceEqDiff, Nat.zero_add, Nat.add_zero, Nat.le_refl, Nat.zero_le, true_and, and_true, true_or, or_true, false_or, or_false, reduceIte]
  exact H
def wF (s : Nat) : Nat → Nat → Nat → Prop := fun k i j => (k = 11 ∨ k = 12) ∧ j = 0 ∧ s * 8 ≤ i ∧ i < s * 8 + 8
set_option maxHeartbeats 1000000 in
theorem sp_fillState (hc : SKF c) {n hd : Nat} {fr to : Nat → Nat} (hP : PD c n hd fr to) {s p v : Nat} (hs : s ≤ 24) (hp : p = plS hd to s) (hv : v = wyS s) (hp60 : p < 60) (H : ∀ c', FRI (wF s) c c' → RF c' n hd fr to s → Q [] (pm c' M)) : K_X2_fillState l D (d + 3) [.ref (ob 2 0), .int (nI s), .int (nI p), .int (nI v - 1)] (pm c M) Q := by
  refine m_X2_fillState (lsA := [.ref (ob 2 0), .int (nI s), .int (nI p), .int (nI v - 1), jk, jk, jk]) rfl (Nat.le_of_ble_eq_true rfl) ?_
  intro X h0 h3 h102
  obtain ⟨hn, hhd, h29, h28, hA⟩ := hP
  have hv3 : v < 3 := by rw [hv]; exact wyS_lt s
  have loop : ∀ m i c1 w5 w6, i + m = n → FRI (wF s) c c1 → (∀ j, j < i → mI c1 11 (s * 8 + j) 0 = nI (cN (fr j) (to j) p v) ∧ mI c1 12 (s * 8 + j) 0 = nI (j * 3 + wyN (fr j) (to j) p v)) → X 3 [.ref (ob 2 0), .int (nI s), .int (nI p), .int (nI v - 1), .int (nI i), w5, w6] [] (pm c1 M) 0 0 := by
    intro m
    induction m with
    | zero =>
      intro i c1 w5 w6 hi hF hR
      have hc1 := hF.sk hc
      have g29 : mI c1 2 9 0 = nI n := by rw [hF.I (fun z => by have := z.1; omega)]; exact h29
      apply h3
      simp only [B_X2_fillState_3, o_il, o_al, o_gf, o_ic2, o_ic, o_ii, o_is, o_inc, nth_4, nth_0, nth_1, lset_5, nth_2, nth_3, lset_6, nth_5, nth_6, lset_4, opS_2, opS_4, opS_3, mV_2_9, al_2, cI_2, hc.a2, ix_2, mV_2_1, hc.p2_1, kd_9, ix_9, hc.l9, cI_9, cw_9, mV_2_2, hc.p2_2, kd_10, ix_10, hc.l10, cI_10, cw_10, mV_2_3, hc.p2_3, kd_11, ix_11, hc.l11, cI_11, cw_11, mV_2_4, hc.p2_4, kd_12, ix_12, hc.l12, cI_12, cw_12, cats_nil, cats_cons, rf_s, rf_n, isR_r, isR_n, isR_rf, cat_i, cat_l, cat_r, cat_n, cat_rf, unl_i, unl_l, unl_r, unl_n, unl_j, unl_rf, orf_r, orf_n, orf_rf, rf_null, mA_pm, mL_pm, mP_pm, List.length_cons, List.length_nil, List.cons_append, List.nil_append, Nat.reduceAdd, Nat.reduceLeDiff, Nat.reduceLT, Nat.reduceEqDiff, Nat.zero_add, Nat.add_zero, Nat.le_refl, Nat.zero_le, true_and, and_true, true_or, or_true, false_or, or_false, reduceIte, hc1.a2, hc1.p2_1, hc1.p2_2, hc1.p2_3, hc1.p2_4, g29]
      refine ⟨fun _ => ?_, fun z => absurd (nI_le (by omega) (by omega)) z⟩
      apply h102
      simp only [B_X2_fillState_102, o_vret, cats_nil, cats_cons, rf_s, rf_n, isR_r, isR_n, isR_rf, cat_i, cat_l, cat_r, cat_n, cat_rf, unl_i, unl_l, unl_r, unl_n, unl_j, unl_rf, orf_r, orf_n, orf_rf, rf_null, mA_pm, mL_pm, mP_pm, List.length_cons, List.length_nil, List.cons_append, List.nil_append, Nat.reduceAdd, Nat.reduceLeDiff, Nat.reduceLT, Nat.reduceEqDiff, Nat.zero_add, Nat.add_zero, Nat.le_refl, Nat.zero_le, true_and, and_true, true_or, or_true, false_or, or_false, reduceIte]
      refine H c1 hF (fun j hj => ?_)
      rw [← hp, ← hv]
      exact hR j (by omega)
    | succ m ih =>
      intro i c1 w5 w6 hi hF hR
      have hc1 := hF.sk hc
      have hin : i < n := by omega
      have hi8 : i < 8 := by omega
      obtain ⟨a1, a2, a3, a4⟩ := hA i hin
      have g29 : mI c1 2 9 0 = nI n := by rw [hF.I (fun z => by have := z.1; omega)]; exact h29
      have g9 : mI c1 9 i 0 = nI (fr i) := by rw [hF.I (fun z => by have := z.1; omega)]; exact a1
      have g10 : mI c1 10 i 0 = nI (to i) := by rw [hF.I (fun z => by have := z.1; omega)]; exact a2
      have hs8 : s * 8 + i < 200 := by omega
      have e8 : nI s * (8 : Int32) + nI i = nI (s * 8 + i) := by rw [show (8 : Int32) = nI 8 from rfl, pk_mul, nI_add]
      have hwl := wyN_lt (f := fr i) (g := to i) (h := p) (v := v) hv3
      have e3 : nI i * (3 : Int32) + (nI (wyN (fr i) (to i) p v) - 1) + 1 = nI (i * 3 + wyN (fr i) (to i) p v) := by
        rw [show (3 : Int32) = nI 3 from rfl, pk_mul, ← nI_add]
        grind
      apply h3
      simp only [B_X2_fillState_3, o_il, o_al, o_gf, o_ic2, o_ic, o_ii, o_is, o_inc, nth_4, nth_0, nth_1, lset_5, nth_2, nth_3, lset_6, nth_5, nth_6, lset_4, opS_2, opS_4, opS_3, mV_2_9, al_2, cI_2, hc.a2, ix_2, mV_2_1, hc.p2_1, kd_9, ix_9, hc.l9, cI_9, cw_9, mV_2_2, hc.p2_2, kd_10, ix_10, hc.l10, cI_10, cw_10, mV_2_3, hc.p2_3, kd_11, ix_11, hc.l11, cI_11, cw_11, mV_2_4, hc.p2_4, kd_12, ix_12, hc.l12, cI_12, cw_12, cats_nil, cats_cons, rf_s, rf_n, isR_r, isR_n, isR_rf, cat_i, cat_l, cat_r, cat_n, cat_rf, unl_i, unl_l, unl_r, unl_n, unl_j, unl_rf, orf_r, orf_n, orf_rf, rf_null, mA_pm, mL_pm, mP_pm, List.length_cons, List.length_nil, List.cons_append, List.nil_append, Nat.reduceAdd, Nat.reduceLeDiff, Nat.reduceLT, Nat.reduceEqDiff, Nat.zero_add, Nat.add_zero, Nat.le_refl, Nat.zero_le, true_and, and_true, true_or, or_true, false_or, or_false, reduceIte, hc1.a2, hc1.p2_1, hc1.p2_2, hc1.p2_3, hc1.p2_4, g29, e8]
      refine ⟨fun z => absurd z (by rw [nI_le_iff]; omega), fun _ => ?_⟩
      refine sp_at (n := 8) (by decide) rfl hc1.l9 (by omega) hi8 ?_
      rw [g9]
      simp only [o_il, o_al, o_gf, o_ic2, o_ic, o_ii, o_is, o_inc, nth_4, nth_0, nth_1, lset_5, nth_2, nth_3, lset_6, nth_5, nth_6, lset_4, opS_2, opS_4, opS_3, mV_2_9, al_2, cI_2, hc.a2, ix_2, mV_2_1, hc.p2_1, kd_9, ix_9, hc.l9, cI_9, cw_9, mV_2_2, hc.p2_2, kd_10, ix_10, hc.l10, cI_10, cw_10, mV_2_3, hc.p2_3, kd_11, ix_11, hc.l11, cI_11, cw_11, mV_2_4, hc.p2_4, kd_12, ix_12, hc.l12, cI_12, cw_12, cats_nil, cats_cons, rf_s, rf_n, isR_r, isR_n, isR_rf, cat_i, cat_l, cat_r, cat_n, cat_rf, unl_i, unl_l, unl_r, unl_n, unl_j, unl_rf, orf_r, orf_n, orf_rf, rf_null, mA_pm, mL_pm, mP_pm, List.length_cons, List.length_nil, List.cons_append, List.nil_append, Nat.reduceAdd, Nat.reduceLeDiff, Nat.reduceLT, Nat.reduceEqDiff, Nat.zero_add, Nat.add_zero, Nat.le_refl, Nat.zero_le, true_and, and_true, true_or, or_true, false_or, or_false, reduceIte, hc1.a2, hc1.p2_2]
      refine sp_at (n := 8) (by decide) rfl hc1.l10 (by omega) hi8 ?_
      rw [g10]
      simp only [o_il, o_al, o_gf, o_ic2, o_ic, o_ii, o_is, o_inc, nth_4, nth_0, nth_1, lset_5, nth_2, nth_3, lset_6, nth_5, nth_6, lset_4, opS_2, opS_4, opS_3, mV_2_9, al_2, cI_2, hc.a2, ix_2, mV_2_1, hc.p2_1, kd_9, ix_9, hc.l9, cI_9, cw_9, mV_2_2, hc.p2_2, kd_10, ix_10, hc.l10, cI_10, cw_10, mV_2_3, hc.p2_3, kd_11, ix_11, hc.l11, cI_11, cw_11, mV_2_4, hc.p2_4, kd_12, ix_12, hc.l12, cI_12, cw_12, cats_nil, cats_cons, rf_s, rf_n, isR_r, isR_n, isR_rf, cat_i, cat_l, cat_r, cat_n, cat_rf, unl_i, unl_l, unl_r, unl_n, unl_j, unl_rf, orf_r, orf_n, orf_rf, rf_null, mA_pm, mL_pm, mP_pm, List.length_cons, List.length_nil, List.cons_append, List.nil_append, Nat.reduceAdd, Nat.reduceLeDiff, Nat.reduceLT, Nat.reduceEqDiff, Nat.zero_add, Nat.add_zero, Nat.le_refl, Nat.zero_le, true_and, and_true, true_or, or_true, false_or, or_false, reduceIte]
      refine sp_wayBehind _ _ _ _ _ ?_
      rw [wayF_N (by omega) a4 hp60 hv3]
      simp only [o_il, o_al, o_gf, o_ic2, o_ic, o_ii, o_is, o_inc, nth_4, nth_0, nth_1, lset_5, nth_2, nth_3, lset_6, nth_5, nth_6, lset_4, opS_2, opS_4, opS_3, mV_2_9, al_2, cI_2, hc.a2, ix_2, mV_2_1, hc.p2_1, kd_9, ix_9, hc.l9, cI_9, cw_9, mV_2_2, hc.p2_2, kd_10, ix_10, hc.l10, cI_10, cw_10, mV_2_3, hc.p2_3, kd_11, ix_11, hc.l11, cI_11, cw_11, mV_2_4, hc.p2_4, kd_12, ix_12, hc.l12, cI_12, cw_12, cats_nil, cats_cons, rf_s, rf_n, isR_r, isR_n, isR_rf, cat_i, cat_l, cat_r, cat_n, cat_rf, unl_i, unl_l, unl_r, unl_n, unl_j, unl_rf, orf_r, orf_n, orf_rf, rf_null, mA_pm, mL_pm, mP_pm, List.length_cons, List.length_nil, List.cons_append, List.nil_append, Nat.reduceAdd, Nat.reduceLeDiff, Nat.reduceLT, Nat.reduceEqDiff, Nat.zero_add, Nat.add_zero, Nat.le_refl, Nat.zero_le, true_and, and_true, true_or, or_true, false_or, or_false, reduceIte, hc1.a2, hc1.p2_1, hc1.p2_3]
      refine sp_at (n := 8) (by decide) rfl hc1.l9 (by omega) hi8 ?_
      rw [g9]
      simp only [o_il, o_al, o_gf, o_ic2, o_ic, o_ii, o_is, o_inc, nth_4, nth_0, nth_1, lset_5, nth_2, nth_3, lset_6, nth_5, nth_6, lset_4, opS_2, opS_4, opS_3, mV_2_9, al_2, cI_2, hc.a2, ix_2, mV_2_1, hc.p2_1, kd_9, ix_9, hc.l9, cI_9, cw_9, mV_2_2, hc.p2_2, kd_10, ix_10, hc.l10, cI_10, cw_10, mV_2_3, hc.p2_3, kd_11, ix_11, hc.l11, cI_11, cw_11, mV_2_4, hc.p2_4, kd_12, ix_12, hc.l12, cI_12, cw_12, cats_nil, cats_cons, rf_s, rf_n, isR_r, isR_n, isR_rf, cat_i, cat_l, cat_r, cat_n, cat_rf, unl_i, unl_l, unl_r, unl_n, unl_j, unl_rf, orf_r, orf_n, orf_rf, rf_null, mA_pm, mL_pm, mP_pm, List.length_cons, List.length_nil, List.cons_append, List.nil_append, Nat.reduceAdd, Nat.reduceLeDiff, Nat.reduceLT, Nat.reduceEqDiff, Nat.zero_add, Nat.add_zero, Nat.le_refl, Nat.zero_le, true_and, and_true, true_or, or_true, false_or, or_false, reduceIte, hc1.a2, hc1.p2_2]
      refine sp_at (n := 8) (by decide) rfl hc1.l10 (by omega) hi8 ?_
      rw [g10]
      simp only [o_il, o_al, o_gf, o_ic2, o_ic, o_ii, o_is, o_inc, nth_4, nth_0, nth_1, lset_5, nth_2, nth_3, lset_6, nth_5, nth_6, lset_4, opS_2, opS_4, opS_3, mV_2_9, al_2, cI_2, hc.a2, ix_2, mV_2_1, hc.p2_1, kd_9, ix_9, hc.l9, cI_9, cw_9, mV_2_2, hc.p2_2, kd_10, ix_10, hc.l10, cI_10, cw_10, mV_2_3, hc.p2_3, kd_11, ix_11, hc.l11, cI_11, cw_11, mV_2_4, hc.p2_4, kd_12, ix_12, hc.l12, cI_12, cw_12, cats_nil, cats_cons, rf_s, rf_n, isR_r, isR_n, isR_rf, cat_i, cat_l, cat_r, cat_n, cat_rf, unl_i, unl_l, unl_r, unl_n, unl_j, unl_rf, orf_r, orf_n, orf_rf, rf_null, mA_pm, mL_pm, mP_pm, List.length_cons, List.length_nil, List.cons_append, List.nil_append, Nat.reduceAdd, Nat.reduceLeDiff, Nat.reduceLT, Nat.reduceEqDiff, Nat.zero_add, Nat.add_zero, Nat.le_refl, Nat.zero_le, true_and, and_true, true_or, or_true, false_or, or_false, reduceIte]
      refine sp_costOf6 _ a3 a4 hp60 hv3 ?_
      simp only [o_il, o_al, o_gf, o_ic2, o_ic, o_ii, o_is, o_inc, nth_4, nth_0, nth_1, lset_5, nth_2, nth_3, lset_6, nth_5, nth_6, lset_4, opS_2, opS_4, opS_3, mV_2_9, al_2, cI_2, hc.a2, ix_2, mV_2_1, hc.p2_1, kd_9, ix_9, hc.l9, cI_9, cw_9, mV_2_2, hc.p2_2, kd_10, ix_10, hc.l10, cI_10, cw_10, mV_2_3, hc.p2_3, kd_11, ix_11, hc.l11, cI_11, cw_11, mV_2_4, hc.p2_4, kd_12, ix_12, hc.l12, cI_12, cw_12, cats_nil, cats_cons, rf_s, rf_n, isR_r, isR_n, isR_rf, cat_i, cat_l, cat_r, cat_n, cat_rf, unl_i, unl_l, unl_r, unl_n, unl_j, unl_rf, orf_r, orf_n, orf_rf, rf_null, mA_pm, mL_pm, mP_pm, List.length_cons, List.length_nil, List.cons_append, List.nil_append, Nat.reduceAdd, Nat.reduceLeDiff, Nat.reduceLT, Nat.reduceEqDiff, Nat.zero_add, Nat.add_zero, Nat.le_refl, Nat.zero_le, true_and, and_true, true_or, or_true, false_or, or_false, reduceIte]
      refine sp_put (n := 200) (by decide) rfl hc1.l11 (by omega) hs8 _ ?_
      simp only [o_il, o_al, o_gf, o_ic2, o_ic, o_ii, o_is, o_inc, nth_4, nth_0, nth_1, lset_5, nth_2, nth_3, lset_6, nth_5, nth_6, lset_4, opS_2, opS_4, opS_3, mV_2_9, al_2, cI_2, hc.a2, ix_2, mV_2_1, hc.p2_1, kd_9, ix_9, hc.l9, cI_9, cw_9, mV_2_2, hc.p2_2, kd_10, ix_10, hc.l10, cI_10, cw_10, mV_2_3, hc.p2_3, kd_11, ix_11, hc.l11, cI_11, cw_11, mV_2_4, hc.p2_4, kd_12, ix_12, hc.l12, cI_12, cw_12, cats_nil, cats_cons, rf_s, rf_n, isR_r, isR_n, isR_rf, cat_i, cat_l, cat_r, cat_n, cat_rf, unl_i, unl_l, unl_r, unl_n, unl_j, unl_rf, orf_r, orf_n, orf_rf, rf_null, mA_pm, mL_pm, mP_pm, List.length_cons, List.length_nil, List.cons_append, List.nil_append, Nat.reduceAdd, Nat.reduceLeDiff, Nat.reduceLT, Nat.reduceEqDiff, Nat.zero_add, Nat.add_zero, Nat.le_refl, Nat.zero_le, true_and, and_true, true_or, or_true, false_or, or_false, reduceIte, mA_wI, mP_wI, hc1.a2, hc1.p2_4, e3]
      refine sp_put (n := 200) (by decide) rfl (by rw [mL_wI]; exact hc1.l12) (by omega) hs8 _ ?_
      simp only [o_il, o_al, o_gf, o_ic2, o_ic, o_ii, o_is, o_inc, nth_4, nth_0, nth_1, lset_5, nth_2, nth_3, lset_6, nth_5, nth_6, lset_4, opS_2, opS_4, opS_3, mV_2_9, al_2, cI_2, hc.a2, ix_2, mV_2_1, hc.p2_1, kd_9, ix_9, hc.l9, cI_9, cw_9, mV_2_2, hc.p2_2, kd_10, ix_10, hc.l10, cI_10, cw_10, mV_2_3, hc.p2_3, kd_11, ix_11, hc.l11, cI_11, cw_11, mV_2_4, hc.p2_4, kd_12, ix_12, hc.l12, cI_12, cw_12, cats_nil, cats_cons, rf_s, rf_n, isR_r, isR_n, isR_rf, cat_i, cat_l, cat_r, cat_n, cat_rf, unl_i, unl_l, unl_r, unl_n, unl_j, unl_rf, orf_r, orf_n, orf_rf, rf_null, mA_pm, mL_pm, mP_pm, List.length_cons, List.length_nil, List.cons_append, List.nil_append, Nat.reduceAdd, Nat.reduceLeDiff, Nat.reduceLT, Nat.reduceEqDiff, Nat.zero_add, Nat.add_zero, Nat.le_refl, Nat.zero_le, true_and, and_true, true_or, or_true, false_or, or_false, reduceIte, nI_1]
      refine ih (i + 1) _ _ _ (by omega) ((hF.w _ ⟨Or.inl rfl, rfl, by omega, by omega⟩).w _ ⟨Or.inr rfl, rfl, by omega, by omega⟩) (fun j hj => ?_)
      simp only [mI_wI]
      by_cases e : j = i
      · subst e
        simp
      · have := hR j (by omega)
        rw [if_neg (by omega), if_neg (by omega), if_neg (by omega), if_neg (by omega)]
        exact this
  apply h0
  simp only [B_X2_fillState_0, o_ic, o_is, lset_4, cats_nil, cats_cons, rf_s, rf_n, isR_r, isR_n, isR_rf, cat_i, cat_l, cat_r, cat_n, cat_rf, unl_i, unl_l, unl_r, unl_n, unl_j, unl_rf, orf_r, orf_n, orf_rf, rf_null, mA_pm, mL_pm, mP_pm, List.length_cons, List.length_nil, List.cons_append, List.nil_append, Nat.reduceAdd, Nat.reduceLeDiff, Nat.reduceLT, Nat.reduceEqDiff, Nat.zero_add, Nat.add_zero, Nat.le_refl, Nat.zero_le, true_and, and_true, true_or, or_true, false_or, or_false, reduceIte]
  exact loop n 0 c _ _ (by omega) (FRI.rf _ _) (fun j hj => by omega)
end ZC4
