/-! what L_cell writes is nothing to class and model -/
section ZJ90
variable {c : HP} {M : MD} {nT nR nA nw L B : Nat} {s : Nat → Int32}
theorem INV.j90 (v : Int64) (h : INV L s c M nw) : INV L s (wJ c 90 0 0 v) M nw := by
  obtain ⟨nT, nR, nA, hT2, hR2, hA2, ⟨c1, c2, c3, ⟨⟨a1, a2, a3, a4, a5, a6, a7, a8⟩, b1, b2, b3, b4⟩, c5, c6, c7⟩, hG, hN, hL⟩ := h
  have hJ : ∀ x i e, ¬ x = 90 → mJ (wJ c 90 0 0 v) x i e = mJ c x i e := fun x i e z => by
    rw [mJ_wJ, if_neg (fun q => z q.1)]
  have hF : FRJ (fun x _ _ => x = 90) c (wJ c 90 0 0 v) := ⟨rfl, rfl, rfl, fun _ _ _ _ => rfl, fun x i e q => hJ x i e q⟩
  refine ⟨nT, nR, nA, hT2, hR2, hA2, ⟨c1, c2, c3, ⟨⟨fun k hk => ?_, a2, a3, a4, a5, a6, a7, a8⟩, fun u hu => ?_, b2.fj hF (fun x i e z => by omega) (AG.rf M), b3.fr (w := fun _ _ _ => False) (fun _ _ _ _ => rfl) ⟨fun z => z, fun z => z⟩ (EK.rf _ _), b4⟩, c5, ?_, c7⟩, hG, hN, hL⟩
  · obtain ⟨y0, y1, y2, y3, y4, y5, y6, y7, y8, y9⟩ := a1 k hk
    exact ⟨y0, y1, y2, y3, y4, y5, y6, y7, y8, by rw [hJ _ _ _ (by omega)]; exact y9⟩
  · rcases b1 u hu with w | ⟨w1, w2, r, w3, w4, w5, w6⟩
    · exact Or.inl w
    · exact Or.inr ⟨w1, w2, r, w3, w4, w5, fun i hi => by rw [hJ _ _ _ (by omega)]; exact w6 i hi⟩
  · exact c6.fr hF (fun a i j z => by omega) (EK.rf _ _)
theorem INB.j90 (v : Int64) (h : INB L s c M B) : INB L s (wJ c 90 0 0 v) M B := by
  obtain ⟨nw, h1, h2⟩ := h
  exact ⟨nw, h1, h2.j90 v⟩
end ZJ90
section ZOPC
variable {l : Launch} {D : DD} {d : Nat} {c : HP} {M N : MD} {Qp : List Value → HP → Prop} {Qx : HP → Prop} {L B base sa : Nat} {s : Nat → Int32}
theorem sp_cell6 (hst : l.stackTraces = false) (hc : SKF c) {nT nR nA : Nat} (hd : SKD c nT nR nA) (hT2 : nT ≤ 12) (hR : CRw c M nT) (x y : Int32) (HQ : ∀ t i, cellIs M nT x y t i → Qp [.long (M.2 91 (60 * t + i))] (pm c N)) (HX : (∀ t i, ¬ cellIs M nT x y t i) → Qx (pm c N)) : Ct l D (d + 8) base sa [.ref (ob 6 0), .int x, .int y] (pm c N) Qp Qx := by
  refine m_X6_cell (lsA := [.ref (ob 6 0), .int x, .int y, jk]) hst (by omega) rfl (Nat.le_of_ble_eq_true rfl) ?_
  intro X h0 h18 h28
  apply h0
  simp only [B_X6_cell_0, o_al, o_il, o_as, o_ifn, o_if, nth_0, nth_1, lset_3, nth_3, nth_2, opV_1, al_6, ix_6, hc.a6, al_5, ix_5, cats_nil, cats_cons, rf_s, rf_n, isR_r, isR_n, isR_rf, cat_i, cat_l, cat_r, cat_n, cat_rf, unl_i, unl_l, unl_r, unl_n, unl_j, unl_rf, orf_r, orf_n, orf_rf, rf_null, mA_pm, mL_pm, mP_pm, List.length_cons, List.length_nil, List.cons_append, List.nil_append, Nat.reduceAdd, Nat.reduceLeDiff, Nat.reduceLT, Nat.reduceEqDiff, Nat.zero_add, Nat.add_zero, Nat.le_refl, Nat.zero_le, true_and, and_true, true_or, or_true, false_or, or_false, reduceIte]
  refine sp_tapeAt hc hd hT2 x (fun vv hv => ?_)
  rcases hv with ⟨t, ht, rfl, rfl⟩ | ⟨hno, rfl⟩
  · have h5 : mA c 5 t = true := hd.2.2.2.1 t ht
    have hh : ∃ n, ((mP c 5 3 t = some (ob 89 t) ∧ mL c 89 t = n ∧ n ≤ 60) ∨ (mP c 5 3 t = none ∧ n = 0)) ∧ (∀ i, i < n → (cellIs M nT (nI t) (nI i) t i ∧ mP c 5 3 t = some (ob 89 t) ∧ mJ c 89 i t = M.2 91 (60 * t + i))) ∧ ∀ t' i, cellIs M nT (nI t) y t' i → t' = t ∧ i < n ∧ y = nI i := by
      rcases hR t ht with ⟨y1, y2⟩ | ⟨y1, y2, p, y3, y4, y5, y6⟩
      · refine ⟨0, Or.inr ⟨y2, rfl⟩, fun i hi => absurd hi (by omega), fun t' i q => ?_⟩
        obtain ⟨q1, q2, q3, -⟩ := q
        rw [nI_eq_iff] at q2
        subst q2
        exact absurd y1 q3
      · refine ⟨p, Or.inl ⟨y2, y5, y3⟩, fun i hi => ⟨⟨ht, rfl, y1, p, y4, y3, hi, rfl⟩, y2, y6 i hi⟩, fun t' i q => ?_⟩
        obtain ⟨q1, q2, q3, p', q4, q5, q6, q7⟩ := q
        rw [nI_eq_iff] at q2
        subst q2
        rw [y4, nI_eq_iff] at q4
        subst q4
        exact ⟨rfl, q6, q7⟩
    obtain ⟨n, g1, g2, g3⟩ := hh
    simp only [o_al, o_il, o_as, o_ifn, o_if, nth_0, nth_1, lset_3, nth_3, nth_2, opV_1, al_6, ix_6, hc.a6, al_5, ix_5, cats_nil, cats_cons, rf_s, rf_n, isR_r, isR_n, isR_rf, cat_i, cat_l, cat_r, cat_n, cat_rf, unl_i, unl_l, unl_r, unl_n, unl_j, unl_rf, orf_r, orf_n, orf_rf, rf_null, mA_pm, mL_pm, mP_pm, List.length_cons, List.length_nil, List.cons_append, List.nil_append, Nat.reduceAdd, Nat.reduceLeDiff, Nat.reduceLT, Nat.reduceEqDiff, Nat.zero_add, Nat.add_zero, Nat.le_refl, Nat.zero_le, true_and, and_true, true_or, or_true, false_or, or_false, reduceIte, h5, al_5]
    refine ⟨fun z => (nomatch z), fun _ => sp_hasNumber h5 g1 y (fun r hr => ?_)⟩
    simp only [o_al, o_il, o_as, o_ifn, o_if, nth_0, nth_1, lset_3, nth_3, nth_2, opV_1, al_6, ix_6, hc.a6, al_5, ix_5, cats_nil, cats_cons, rf_s, rf_n, isR_r, isR_n, isR_rf, cat_i, cat_l, cat_r, cat_n, cat_rf, unl_i, unl_l, unl_r, unl_n, unl_j, unl_rf, orf_r, orf_n, orf_rf, rf_null, mA_pm, mL_pm, mP_pm, List.length_cons, List.length_nil, List.cons_append, List.nil_append, Nat.reduceAdd, Nat.reduceLeDiff, Nat.reduceLT, Nat.reduceEqDiff, Nat.zero_add, Nat.add_zero, Nat.le_refl, Nat.zero_le, true_and, and_true, true_or, or_true, false_or, or_false, reduceIte, h5, al_5]
    refine ⟨fun z => ?_, fun z => ?_⟩
    · apply h18
      refine ⟨rfl, rfl, rfl, HX (fun t' i q => ?_)⟩
      obtain ⟨-, q1, q2⟩ := g3 t' i q
      rcases hr with ⟨e, -⟩ | ⟨-, e⟩
      · rw [e] at z
        exact absurd z (by decide)
      · exact e i q1 q2
    · apply h28
      rcases hr with ⟨-, i, hi, rfl⟩ | ⟨e, -⟩
      · obtain ⟨k1, k2, k3⟩ := g2 i hi
        have hn : n ≤ 60 := by
          rcases g1 with g1 | g1 <;> omega
        have hl : mL c 89 t = n := by
          rcases g1 with g1 | g1
          · exact g1.2.1
          · omega
        simp only [B_X6_cell_28, o_al, o_il, o_lret, nth_3, nth_2, opV_1, al_5, ix_5, cats_nil, cats_cons, rf_s, rf_n, isR_r, isR_n, isR_rf, cat_i, cat_l, cat_r, cat_n, cat_rf, unl_i, unl_l, unl_r, unl_n, unl_j, unl_rf, orf_r, orf_n, orf_rf, rf_null, mA_pm, mL_pm, mP_pm, List.length_cons, List.length_nil, List.cons_append, List.nil_append, Nat.reduceAdd, Nat.reduceLeDiff, Nat.reduceLT, Nat.reduceEqDiff, Nat.zero_add, Nat.add_zero, Nat.le_refl, Nat.zero_le, true_and, and_true, true_or, or_true, false_or, or_false, reduceIte, h5, al_5]
        refine sp_number h5 k2 hl hn hi ?_
        simp only [o_al, o_il, o_lret, nth_3, nth_2, opV_1, al_5, ix_5, cats_nil, cats_cons, rf_s, rf_n, isR_r, isR_n, isR_rf, cat_i, cat_l, cat_r, cat_n, cat_rf, unl_i, unl_l, unl_r, unl_n, unl_j, unl_rf, orf_r, orf_n, orf_rf, rf_null, mA_pm, mL_pm, mP_pm, List.length_cons, List.length_nil, List.cons_append, List.nil_append, Nat.reduceAdd, Nat.reduceLeDiff, Nat.reduceLT, Nat.reduceEqDiff, Nat.zero_add, Nat.add_zero, Nat.le_refl, Nat.zero_le, true_and, and_true, true_or, or_true, false_or, or_false, reduceIte]
        rw [k3]
        exact HQ t i k1
      · exact absurd e z
  · simp only [o_al, o_il, o_as, o_ifn, o_if, nth_0, nth_1, lset_3, nth_3, nth_2, opV_1, al_6, ix_6, hc.a6, al_5, ix_5, cats_nil, cats_cons, rf_s, rf_n, isR_r, isR_n, isR_rf, cat_i, cat_l, cat_r, cat_n, cat_rf, unl_i, unl_l, unl_r, unl_n, unl_j, unl_rf, orf_r, orf_n, orf_rf, rf_null, mA_pm, mL_pm, mP_pm, List.length_cons, List.length_nil, List.cons_append, List.nil_append, Nat.reduceAdd, Nat.reduceLeDiff, Nat.reduceLT, Nat.reduceEqDiff, Nat.zero_add, Nat.add_zero, Nat.le_refl, Nat.zero_le, true_and, and_true, true_or, or_true, false_or, or_false, reduceIte]
    refine ⟨fun _ => h18 _ _ _ _ _ ?_, fun z => absurd trivial z⟩
    exact ⟨rfl, rfl, rfl, HX (fun t i q => hno t q.1 q.2.1)⟩
theorem op_cell (hst : l.stackTraces = false) (h : INB L s c M B) (x y : Int32) (H : ∀ r c1, PRE L s c1 → (∀ Q' : List Value → HP → Prop, (∀ r' w M', INB L s c1 M' B → M'.1 7 0 = w → r = w → (r = 0 → mJ c1 90 0 0 = r') → Q' [.long r'] (pm c1 M')) → K_X7_cell l D (d + 20) [.ref (ob 7 0), .int x, .int y] (pm c1 M) Q') → Qp [.int r] (pm c1 M)) : Lc l D (d + 20) base sa [.ref (ob 6 0), .int x, .int y, .ref (ob 90 0)] (pm c M) Qp := by
  obtain ⟨nw, hB, nT, nR, nA, hT2, hR2, hA2, hC, hG, hN, hL⟩ := id h
  obtain ⟨c1, c2, c3, c4, c5, c8, c9⟩ := id hC
  have hP : ∀ t, t < nT → ∃ p, p ≤ 60 ∧ M.1 22 t = nI p := fun t ht => by
    obtain ⟨p, -, p2, p3⟩ := hG.1.2.2.2.2.2.2 t ht
    exact ⟨p, p2, p3⟩
  refine m_L_cell ⟨by decide, c1.a6⟩ (sp_cell6 hst c1 c2 hT2 c4.2.1 x y (fun t i hc => ⟨_, rfl, ?_, ?_⟩) (fun hno => ?_))
  · rw [show mL (pm c M) 90 0 = mL c 90 0 from rfl, hL.2.1]
    unfold vp_in
    decide
  · rw [cv_90]
    refine H _ _ ⟨c3, hL⟩ (fun Q' H' => ?_)
    refine sp_cell (c := wJ c 90 0 0 (M.2 91 (60 * t + i))) (show SKM (wJ c 90 0 0 _) from c3) hG.1.2.2.1 hT2 hP x y (fun r' w M' hS hw hr => ?_)
    rcases hr with ⟨t', i', q, rfl, rfl⟩ | ⟨q, -⟩
    · refine H' _ _ _ ((h.j90 _).sc hS) hw rfl (fun _ => ?_)
      rw [mJ_wJ, if_pos ⟨rfl, rfl, rfl⟩]
      obtain ⟨a1, a2, a3, p, a4, a5, a6, a7⟩ := hc
      obtain ⟨b1, b2, b3, p', b4, b5, b6, b7⟩ := q
      rw [a2, nI_eq_iff] at b2
      subst b2
      rw [a7, nI_eq_iff] at b7
      rw [b7]
    · exact absurd hc (q t i)
  · refine H _ _ ⟨c3, hL⟩ (fun Q' H' => ?_)
    refine sp_cell c3 hG.1.2.2.1 hT2 hP x y (fun r' w M' hS hw hr => ?_)
    rcases hr with ⟨t', i', q, rfl, rfl⟩ | ⟨q, rfl, rfl⟩
    · exact absurd q (hno t' i')
    · exact H' _ _ _ (h.sc hS) hw rfl (fun z => absurd z (by decide))
end ZOPC
