/-! Class and model: copy -/
theorem wR_cm (c : HP) (M : MD) {k : Nat} (j : Nat) (f : Nat → Int64) (hk : isM k = false) : wR (pm c M) k j f = pm (wR c k j f) M := by
  refine Prod.ext rfl (Prod.ext rfl (Prod.ext rfl (Prod.ext ?_ rfl)))
  funext a b e
  show (if a = k ∧ e = j then f b else if isM a = true ∧ e = 0 then M.2 a b else c.2.2.2.1 a b e) = (if isM a = true ∧ e = 0 then M.2 a b else if a = k ∧ e = j then f b else c.2.2.2.1 a b e)
  by_cases h : a = k ∧ e = j
  · rw [if_pos h, if_pos h, if_neg (fun z => by rw [h.1, hk] at z; cases z.1)]
  · rw [if_neg h, if_neg h]
theorem wr_89 (c : HP) (M : MD) (j : Nat) (f : Nat → Int64) : wR (pm c M) 89 j f = pm (wR c 89 j f) M := wR_cm c M j f rfl
def cyC (c : HP) (f t a b n : Nat) : HP := wR c 89 t (va_cpy (fun i => mJ c 89 i f) (fun i => mJ c 89 i t) a b n)
section ZCY
variable {c : HP} {M : MD} {nT nR nA nw L : Nat} {s : Nat → Int32}
theorem INV.copy (hT2 : nT ≤ 12) (hR2 : nR ≤ 3) (hA2 : nA ≤ 150) (hC : CPL c M nT nR nA) (hG : GMI M nT nR nA) (hN : TMI M nA nw) (hL : LEV L s c) {f t a b n p q : Nat} (hf : f < nT) (ht : t < nT) (h1 : ¬ M.1 21 f = 4) (h2 : ¬ M.1 21 t = 4) (hp : M.1 22 f = nI p) (hq : M.1 22 t = nI q) (hp2 : p ≤ 60) (hq2 : q ≤ 60) (ha : a + n ≤ p) (hb : b + n ≤ q) : INV L s (cyC c f t a b n) (cpW M (60 * f + a) (60 * t + b) 0 n) nw := by
  obtain ⟨c1, c2, c3, c4, c5, c6, c7⟩ := hC
  obtain ⟨⟨a1, a2, a3, a4, a5, a6, a7, a8⟩, b1, b2, b3, b4⟩ := c4
  obtain ⟨gS, gA, gH, gW, gR, gJ, gT, gI, gD, gSp, u1, u2, u3, u4⟩ := hG
  have hJ : ∀ x i e, ¬ (x = 89 ∧ e = t) → mJ (cyC c f t a b n) x i e = mJ c x i e := fun x i e z => by
    unfold cyC
    rw [mJ_wR, if_neg z]
  have h92 : ∀ x i, ¬ x = 91 → (cpW M (60 * f + a) (60 * t + b) 0 n).2 x i = M.2 x i := fun x i z => if_neg (fun w => z w.1)
  have n2 : ∀ i, (cpW M (60 * f + a) (60 * t + b) 0 n).2 91 i = if 60 * t + b ≤ i ∧ i < 60 * t + b + n then M.2 91 (60 * f + a + (i - (60 * t + b))) else M.2 91 i := fun i => by
    show (if 91 = 91 ∧ 60 * t + b + 0 ≤ i ∧ i < 60 * t + b + n then _ else _) = _
    simp only [true_and, Nat.add_zero]
  refine ⟨nT, nR, nA, hT2, hR2, hA2, ⟨c1, c2, c3, ⟨⟨fun k hk => ?_, a2, a3, a4, a5, a6, a7, a8⟩, fun u hu => ?_, b2.fj (w := fun x _ _ => x = 89) ⟨rfl, rfl, rfl, fun _ _ _ _ => rfl, fun x i e q => hJ x i e (fun z => q z.1)⟩ (fun x i e z => by omega) (AG.rf M), b3.fr (w := fun _ _ _ => False) (fun _ _ _ _ => rfl) ⟨fun z => z, fun z => z⟩ (EK.rf _ _), b4⟩, c5, ?_, c7⟩, ⟨gS, gA, gH, gW, gR, gJ, gT, gI, gD, gSp, u1, fun i hi => ?_, fun k hk => ?_, u4⟩, hN, hL⟩
  · obtain ⟨y0, y1, y2, y3, y4, y5, y6, y7, y8, y9⟩ := a1 k hk
    exact ⟨y0, y1, y2, y3, y4, y5, y6, y7, y8, by rw [hJ _ _ _ (by omega), h92 _ _ (by omega)]; exact y9⟩
  · rcases b1 u hu with w | ⟨w1, w2, r, w3, w4, w5, w6⟩
    · exact Or.inl w
    · refine Or.inr ⟨w1, w2, r, w3, w4, w5, fun i hi => ?_⟩
      rw [n2]
      by_cases e : u = t
      · subst e
        have hr : r = q := by
          rw [hq, nI_eq_iff] at w4
          exact w4.symm
        subst hr
        unfold cyC
        rw [mJ_wR, if_pos ⟨rfl, rfl⟩]
        unfold va_cpy
        by_cases z : b ≤ i ∧ i < b + n
        · rw [if_pos z, if_pos (by omega)]
          rcases b1 f hf with y | ⟨y1, y2, r2, y3, y4, y5, y6⟩
          · exact absurd y.1 h1
          · have hr2 : r2 = p := by
              rw [hp, nI_eq_iff] at y4
              exact y4.symm
            subst hr2
            have := y6 (a + (i - b)) (by omega)
            exact this.trans (congrArg (M.2 91) (by omega))
        · rw [if_neg z, if_neg (by omega)]
          exact w6 i hi
      · rw [hJ _ _ _ (by omega), if_neg (by omega)]
        exact w6 i hi
  · exact c6.q (w := fun _ _ _ => False) (fun _ _ _ _ => rfl) (hJ _ _ _ (by omega)) (fun _ _ _ z => z.elim) (EK.rf _ _)
  · rw [n2, if_neg (by omega)]
    exact u2 i hi
  · rw [h92 _ _ (by omega)]
    exact u3 k hk
end ZCY
section ZCYb
variable {l : Launch} {D : DD} {d : Nat} {c : HP} {M N : MD} {Q : List Value → HP → Prop} {L B : Nat} {s : Nat → Int32}
theorem sp_copy6 (hc : SKF c) {nT nR nA : Nat} (hd : SKD c nT nR nA) (hT2 : nT ≤ 12) (hT : CTp c M nT) (hR : CRw c M nT) (hpl : ∀ t, t < nT → ∃ p, 0 < p ∧ p ≤ 60 ∧ M.1 22 t = nI p) (x y z w v : Int32) (H : ∀ r c', (∃ f t, copyC M nT x z f t ∧ (((M.1 21 f = 4 ∨ M.1 21 t = 4) ∧ r = -2 ∧ c' = c) ∨ (¬ (M.1 21 f = 4 ∨ M.1 21 t = 4) ∧ ((¬ M.1 21 f = M.1 21 t ∧ r = -3 ∧ c' = c) ∨ (M.1 21 f = M.1 21 t ∧ ((copyBad M f t y w v ∧ r = -4 ∧ c' = c) ∨ (∃ a b n p q, ¬ copyBad M f t y w v ∧ y = nI a ∧ w = nI b ∧ v = nI n ∧ M.1 22 f = nI p ∧ M.1 22 t = nI q ∧ p ≤ 60 ∧ q ≤ 60 ∧ a + n ≤ p ∧ b + n ≤ q ∧ r = v ∧ c' = cyC c f t a b n))))))) ∨ ((∀ f t, ¬ copyC M nT x z f t) ∧ r = -1 ∧ c' = c) → Q [.int r] (pm c' N)) : K_X6_copy l D (d + 2) [.ref (ob 6 0), .int x, .int y, .int z, .int w, .int v] (pm c N) Q := by
  refine m_X6_copy (lsA := [.ref (ob 6 0), .int x, .int y, .int z, .int w, .int v, jk, jk]) rfl (Nat.le_of_ble_eq_true rfl) ?_
  intro X h0 h40 h42 h58 h61 h77 h118 h121
  have k40 : (∀ f t, ¬ copyC M nT x z f t) → ∀ ls, X 40 ls [] (pm c N) 0 0 := by
    intro q ls
    apply h40
    simp only [B_X6_copy_40, o_ic, o_iret, cats_nil, cats_cons, rf_s, rf_n, isR_r, isR_n, isR_rf, cat_i, cat_l, cat_r, cat_n, cat_rf, unl_i, unl_l, unl_r, unl_n, unl_j, unl_rf, orf_r, orf_n, orf_rf, rf_null, mA_pm, mL_pm, mP_pm, List.length_cons, List.length_nil, List.cons_append, List.nil_append, Nat.reduceAdd, Nat.reduceLeDiff, Nat.reduceLT, Nat.reduceEqDiff, Nat.zero_add, Nat.add_zero, Nat.le_refl, Nat.zero_le, true_and, and_true, true_or, or_true, false_or, or_false, reduceIte]
    exact H _ _ (Or.inr ⟨q, rfl, rfl⟩)
  apply h0
  simp only [B_X6_copy_0, o_al, o_il, o_as, o_ifn, o_if, nth_0, nth_1, lset_6, nth_3, lset_7, nth_6, nth_7, opV_1, opV_0, al_6, ix_6, hc.a6, al_5, ix_5, cats_nil, cats_cons, rf_s, rf_n, isR_r, isR_n, isR_rf, cat_i, cat_l, cat_r, cat_n, cat_rf, unl_i, unl_l, unl_r, unl_n, unl_j, unl_rf, orf_r, orf_n, orf_rf, rf_null, mA_pm, mL_pm, mP_pm, List.length_cons, List.length_nil, List.cons_append, List.nil_append, Nat.reduceAdd, Nat.reduceLeDiff, Nat.reduceLT, Nat.reduceEqDiff, Nat.zero_add, Nat.add_zero, Nat.le_refl, Nat.zero_le, true_and, and_true, true_or, or_true, false_or, or_false, reduceIte]
  refine sp_tapeAt hc hd hT2 x (fun vv hv => ?_)
  rcases hv with ⟨f, hf, rfl, rfl⟩ | ⟨hno, rfl⟩
  rotate_left
  · simp only [o_al, o_il, o_as, o_ifn, o_if, nth_0, nth_1, lset_6, nth_3, lset_7, nth_6, nth_7, opV_1, opV_0, al_6, ix_6, hc.a6, al_5, ix_5, cats_nil, cats_cons, rf_s, rf_n, isR_r, isR_n, isR_rf, cat_i, cat_l, cat_r, cat_n, cat_rf, unl_i, unl_l, unl_r, unl_n, unl_j, unl_rf, orf_r, orf_n, orf_rf, rf_null, mA_pm, mL_pm, mP_pm, List.length_cons, List.length_nil, List.cons_append, List.nil_append, Nat.reduceAdd, Nat.reduceLeDiff, Nat.reduceLT, Nat.reduceEqDiff, Nat.zero_add, Nat.add_zero, Nat.le_refl, Nat.zero_le, true_and, and_true, true_or, or_true, false_or, or_false, reduceIte, hc.a6]
    refine sp_tapeAt hc hd hT2 z (fun vu hu => ?_)
    rcases hu with ⟨t, ht, rfl, rfl⟩ | ⟨hno2, rfl⟩
    · simp only [o_al, o_il, o_as, o_ifn, o_if, nth_0, nth_1, lset_6, nth_3, lset_7, nth_6, nth_7, opV_1, opV_0, al_6, ix_6, hc.a6, al_5, ix_5, cats_nil, cats_cons, rf_s, rf_n, isR_r, isR_n, isR_rf, cat_i, cat_l, cat_r, cat_n, cat_rf, unl_i, unl_l, unl_r, unl_n, unl_j, unl_rf, orf_r, orf_n, orf_rf, rf_null, mA_pm, mL_pm, mP_pm, List.length_cons, List.length_nil, List.cons_append, List.nil_append, Nat.reduceAdd, Nat.reduceLeDiff, Nat.reduceLT, Nat.reduceEqDiff, Nat.zero_add, Nat.add_zero, Nat.le_refl, Nat.zero_le, true_and, and_true, true_or, or_true, false_or, or_false, reduceIte]
      exact ⟨fun _ => k40 (fun f t q => hno f q.1 q.2.2.1) _, fun z => by first | exact absurd rfl z | exact absurd trivial z⟩
    · simp only [o_al, o_il, o_as, o_ifn, o_if, nth_0, nth_1, lset_6, nth_3, lset_7, nth_6, nth_7, opV_1, opV_0, al_6, ix_6, hc.a6, al_5, ix_5, cats_nil, cats_cons, rf_s, rf_n, isR_r, isR_n, isR_rf, cat_i, cat_l, cat_r, cat_n, cat_rf, unl_i, unl_l, unl_r, unl_n, unl_j, unl_rf, orf_r, orf_n, orf_rf, rf_null, mA_pm, mL_pm, mP_pm, List.length_cons, List.length_nil, List.cons_append, List.nil_append, Nat.reduceAdd, Nat.reduceLeDiff, Nat.reduceLT, Nat.reduceEqDiff, Nat.zero_add, Nat.add_zero, Nat.le_refl, Nat.zero_le, true_and, and_true, true_or, or_true, false_or, or_false, reduceIte]
      exact ⟨fun _ => k40 (fun f t q => hno f q.1 q.2.2.1) _, fun z => by first | exact absurd rfl z | exact absurd trivial z⟩
  simp only [o_al, o_il, o_as, o_ifn, o_if, nth_0, nth_1, lset_6, nth_3, lset_7, nth_6, nth_7, opV_1, opV_0, al_6, ix_6, hc.a6, al_5, ix_5, cats_nil, cats_cons, rf_s, rf_n, isR_r, isR_n, isR_rf, cat_i, cat_l, cat_r, cat_n, cat_rf, unl_i, unl_l, unl_r, unl_n, unl_j, unl_rf, orf_r, orf_n, orf_rf, rf_null, mA_pm, mL_pm, mP_pm, List.length_cons, List.length_nil, List.cons_append, List.nil_append, Nat.reduceAdd, Nat.reduceLeDiff, Nat.reduceLT, Nat.reduceEqDiff, Nat.zero_add, Nat.add_zero, Nat.le_refl, Nat.zero_le, true_and, and_true, true_or, or_true, false_or, or_false, reduceIte, hc.a6]
  refine sp_tapeAt hc hd hT2 z (fun vu hu => ?_)
  rcases hu with ⟨t, ht, rfl, rfl⟩ | ⟨hno2, rfl⟩
  rotate_left
  · simp only [o_al, o_il, o_as, o_ifn, o_if, nth_0, nth_1, lset_6, nth_3, lset_7, nth_6, nth_7, opV_1, opV_0, al_6, ix_6, hc.a6, al_5, ix_5, cats_nil, cats_cons, rf_s, rf_n, isR_r, isR_n, isR_rf, cat_i, cat_l, cat_r, cat_n, cat_rf, unl_i, unl_l, unl_r, unl_n, unl_j, unl_rf, orf_r, orf_n, orf_rf, rf_null, mA_pm, mL_pm, mP_pm, List.length_cons, List.length_nil, List.cons_append, List.nil_append, Nat.reduceAdd, Nat.reduceLeDiff, Nat.reduceLT, Nat.reduceEqDiff, Nat.zero_add, Nat.add_zero, Nat.le_refl, Nat.zero_le, true_and, and_true, true_or, or_true, false_or, or_false, reduceIte, rnn, false_imp_iff, not_false_eq_true, true_imp_iff]
    first
      | exact ⟨fun _ => k40 (fun f t q => hno2 t q.2.1 q.2.2.2.1) _, fun z => by first | exact absurd rfl z | exact absurd trivial z⟩
      | exact ⟨k40 (fun f t q => hno2 t q.2.1 q.2.2.2.1) _, fun z => absurd trivial z⟩
  have haf := hd.2.2.2.1 f hf
  have hat := hd.2.2.2.1 t ht
  simp only [o_al, o_il, o_as, o_ifn, o_if, nth_0, nth_1, lset_6, nth_3, lset_7, nth_6, nth_7, opV_1, opV_0, al_6, ix_6, hc.a6, al_5, ix_5, cats_nil, cats_cons, rf_s, rf_n, isR_r, isR_n, isR_rf, cat_i, cat_l, cat_r, cat_n, cat_rf, unl_i, unl_l, unl_r, unl_n, unl_j, unl_rf, orf_r, orf_n, orf_rf, rf_null, mA_pm, mL_pm, mP_pm, List.length_cons, List.length_nil, List.cons_append, List.nil_append, Nat.reduceAdd, Nat.reduceLeDiff, Nat.reduceLT, Nat.reduceEqDiff, Nat.zero_add, Nat.add_zero, Nat.le_refl, Nat.zero_le, true_and, and_true, true_or, or_true, false_or, or_false, reduceIte, rnn, false_imp_iff, not_false_eq_true, true_imp_iff, haf, hat, al_5]
  refine sp_isFree haf ?_
  simp only [o_al, o_il, o_as, o_ifn, o_if, nth_0, nth_1, lset_6, nth_3, lset_7, nth_6, nth_7, opV_1, opV_0, al_6, ix_6, hc.a6, al_5, ix_5, cats_nil, cats_cons, rf_s, rf_n, isR_r, isR_n, isR_rf, cat_i, cat_l, cat_r, cat_n, cat_rf, unl_i, unl_l, unl_r, unl_n, unl_j, unl_rf, orf_r, orf_n, orf_rf, rf_null, mA_pm, mL_pm, mP_pm, List.length_cons, List.length_nil, List.cons_append, List.nil_append, Nat.reduceAdd, Nat.reduceLeDiff, Nat.reduceLT, Nat.reduceEqDiff, Nat.zero_add, Nat.add_zero, Nat.le_refl, Nat.zero_le, true_and, and_true, true_or, or_true, false_or, or_false, reduceIte, hat, al_5]
  have uni : ∀ f' t', copyC M nT (nI f) (nI t) f' t' → f' = f ∧ t' = t := fun f' t' q => by
    obtain ⟨q1, q2, q3, q4, -⟩ := q
    rw [nI_eq_iff] at q3 q4
    exact ⟨q3.symm, q4.symm⟩
  refine ⟨fun q => k40 (fun f' t' qq => ?_) _, fun q => ?_⟩
  · obtain ⟨rfl, rfl⟩ := uni f' t' qq
    exact bi_e0 q ((CTp_free hT hf).mpr qq.2.2.2.2.1)
  have g1 := (CTp_free hT hf).mp (bi_ne0 q)
  refine sp_isFree hat ?_
  simp only [o_al, o_il, o_as, o_ifn, o_if, nth_0, nth_1, lset_6, nth_3, lset_7, nth_6, nth_7, opV_1, opV_0, al_6, ix_6, hc.a6, al_5, ix_5, cats_nil, cats_cons, rf_s, rf_n, isR_r, isR_n, isR_rf, cat_i, cat_l, cat_r, cat_n, cat_rf, unl_i, unl_l, unl_r, unl_n, unl_j, unl_rf, orf_r, orf_n, orf_rf, rf_null, mA_pm, mL_pm, mP_pm, List.length_cons, List.length_nil, List.cons_append, List.nil_append, Nat.reduceAdd, Nat.reduceLeDiff, Nat.reduceLT, Nat.reduceEqDiff, Nat.zero_add, Nat.add_zero, Nat.le_refl, Nat.zero_le, true_and, and_true, true_or, or_true, false_or, or_false, reduceIte]
  refine ⟨fun q => k40 (fun f' t' qq => ?_) _, fun q => ?_⟩
  · obtain ⟨rfl, rfl⟩ := uni f' t' qq
    exact bi_e0 q ((CTp_free hT ht).mpr qq.2.2.2.2.2)
  have g2 := (CTp_free hT ht).mp (bi_ne0 q)
  have hcc : copyC M nT (nI f) (nI t) f t := ⟨hf, ht, rfl, rfl, g1, g2⟩
  have e1f := (hT f hf).2.1
  have e1t := (hT t ht).2.1
  have k58 : (M.1 21 f = 4 ∨ M.1 21 t = 4) → ∀ ls, X 58 ls [] (pm c N) 0 0 := by
    intro q ls
    apply h58
    simp only [B_X6_copy_58, o_ic, o_iret, cats_nil, cats_cons, rf_s, rf_n, isR_r, isR_n, isR_rf, cat_i, cat_l, cat_r, cat_n, cat_rf, unl_i, unl_l, unl_r, unl_n, unl_j, unl_rf, orf_r, orf_n, orf_rf, rf_null, mA_pm, mL_pm, mP_pm, List.length_cons, List.length_nil, List.cons_append, List.nil_append, Nat.reduceAdd, Nat.reduceLeDiff, Nat.reduceLT, Nat.reduceEqDiff, Nat.zero_add, Nat.add_zero, Nat.le_refl, Nat.zero_le, true_and, and_true, true_or, or_true, false_or, or_false, reduceIte]
    exact H _ _ (Or.inl ⟨f, t, hcc, Or.inl ⟨q, rfl, rfl⟩⟩)
  apply h42
  rcases hR f hf with ⟨y1, y2⟩ | ⟨y1, y2, p, y3, y4, y5, y6⟩
  · simp only [B_X6_copy_42, o_al, o_gf, o_ifn, nth_6, nth_7, mV_5_3, al_5, kd_89, ix_89, cJ_89, cv_89, ix_5, cats_nil, cats_cons, rf_s, rf_n, isR_r, isR_n, isR_rf, cat_i, cat_l, cat_r, cat_n, cat_rf, unl_i, unl_l, unl_r, unl_n, unl_j, unl_rf, orf_r, orf_n, orf_rf, rf_null, mA_pm, mL_pm, mP_pm, List.length_cons, List.length_nil, List.cons_append, List.nil_append, Nat.reduceAdd, Nat.reduceLeDiff, Nat.reduceLT, Nat.reduceEqDiff, Nat.zero_add, Nat.add_zero, Nat.le_refl, Nat.zero_le, true_and, and_true, true_or, or_true, false_or, or_false, reduceIte, haf, hat, y2]
    first
      | exact ⟨fun _ => k58 (Or.inl y1) _, fun z => by first | exact absurd rfl z | exact absurd trivial z⟩
      | exact ⟨k58 (Or.inl y1) _, fun z => absurd trivial z⟩
      | exact k58 (Or.inl y1) _
  rcases hR t ht with ⟨z1, z2⟩ | ⟨z1, z2, p2, z3, z4, z5, z6⟩
  · simp only [B_X6_copy_42, o_al, o_gf, o_ifn, nth_6, nth_7, mV_5_3, al_5, kd_89, ix_89, cJ_89, cv_89, ix_5, cats_nil, cats_cons, rf_s, rf_n, isR_r, isR_n, isR_rf, cat_i, cat_l, cat_r, cat_n, cat_rf, unl_i, unl_l, unl_r, unl_n, unl_j, unl_rf, orf_r, orf_n, orf_rf, rf_null, mA_pm, mL_pm, mP_pm, List.length_cons, List.length_nil, List.cons_append, List.nil_append, Nat.reduceAdd, Nat.reduceLeDiff, Nat.reduceLT, Nat.reduceEqDiff, Nat.zero_add, Nat.add_zero, Nat.le_refl, Nat.zero_le, true_and, and_true, true_or, or_true, false_or, or_false, reduceIte, haf, hat, y2, z2, rnn, false_imp_iff, not_false_eq_true, true_imp_iff]
    first
      | exact ⟨fun _ => k58 (Or.inr z1) _, fun z => by first | exact absurd rfl z | exact absurd trivial z⟩
      | exact ⟨k58 (Or.inr z1) _, fun z => absurd trivial z⟩
  have hn4 : ¬ (M.1 21 f = 4 ∨ M.1 21 t = 4) := fun z => z.elim y1 z1
  simp only [B_X6_copy_42, o_al, o_gf, o_ifn, nth_6, nth_7, mV_5_3, al_5, kd_89, ix_89, cJ_89, cv_89, ix_5, cats_nil, cats_cons, rf_s, rf_n, isR_r, isR_n, isR_rf, cat_i, cat_l, cat_r, cat_n, cat_rf, unl_i, unl_l, unl_r, unl_n, unl_j, unl_rf, orf_r, orf_n, orf_rf, rf_null, mA_pm, mL_pm, mP_pm, List.length_cons, List.length_nil, List.cons_append, List.nil_append, Nat.reduceAdd, Nat.reduceLeDiff, Nat.reduceLT, Nat.reduceEqDiff, Nat.zero_add, Nat.add_zero, Nat.le_refl, Nat.zero_le, true_and, and_true, true_or, or_true, false_or, or_false, reduceIte, haf, hat, y2, z2, rnn, false_imp_iff, not_false_eq_true, true_imp_iff]
  apply h61
  simp only [B_X6_copy_61, o_al, o_gf, o_ic2, o_ic, o_iret, nth_6, nth_7, mV_5_1, al_5, cI_5, ix_5, cats_nil, cats_cons, rf_s, rf_n, isR_r, isR_n, isR_rf, cat_i, cat_l, cat_r, cat_n, cat_rf, unl_i, unl_l, unl_r, unl_n, unl_j, unl_rf, orf_r, orf_n, orf_rf, rf_null, mA_pm, mL_pm, mP_pm, List.length_cons, List.length_nil, List.cons_append, List.nil_append, Nat.reduceAdd, Nat.reduceLeDiff, Nat.reduceLT, Nat.reduceEqDiff, Nat.zero_add, Nat.add_zero, Nat.le_refl, Nat.zero_le, true_and, and_true, true_or, or_true, false_or, or_false, reduceIte, haf, hat, e1f, e1t]
  refine ⟨fun q3 => ?_, fun q3 => H _ _ (Or.inl ⟨f, t, hcc, Or.inr ⟨hn4, Or.inl ⟨q3, rfl, rfl⟩⟩⟩)⟩
  have k118 : copyBad M f t y w v → ∀ ls, X 118 ls [] (pm c N) 0 0 := by
    intro q ls
    apply h118
    simp only [B_X6_copy_118, o_ic, o_iret, cats_nil, cats_cons, rf_s, rf_n, isR_r, isR_n, isR_rf, cat_i, cat_l, cat_r, cat_n, cat_rf, unl_i, unl_l, unl_r, unl_n, unl_j, unl_rf, orf_r, orf_n, orf_rf, rf_null, mA_pm, mL_pm, mP_pm, List.length_cons, List.length_nil, List.cons_append, List.nil_append, Nat.reduceAdd, Nat.reduceLeDiff, Nat.reduceLT, Nat.reduceEqDiff, Nat.zero_add, Nat.add_zero, Nat.le_refl, Nat.zero_le, true_and, and_true, true_or, or_true, false_or, or_false, reduceIte]
    exact H _ _ (Or.inl ⟨f, t, hcc, Or.inr ⟨hn4, Or.inr ⟨q3, Or.inl ⟨q, rfl, rfl⟩⟩⟩⟩)
  apply h77
  simp only [B_X6_copy_77, o_il, o_if, o_al, o_gf, o_alen, o_ii, o_ic2, nth_5, nth_2, nth_4, nth_6, nth_7, mV_5_3, al_5, kd_89, ix_89, cJ_89, cv_89, ix_5, cats_nil, cats_cons, rf_s, rf_n, isR_r, isR_n, isR_rf, cat_i, cat_l, cat_r, cat_n, cat_rf, unl_i, unl_l, unl_r, unl_n, unl_j, unl_rf, orf_r, orf_n, orf_rf, rf_null, mA_pm, mL_pm, mP_pm, List.length_cons, List.length_nil, List.cons_append, List.nil_append, Nat.reduceAdd, Nat.reduceLeDiff, Nat.reduceLT, Nat.reduceEqDiff, Nat.zero_add, Nat.add_zero, Nat.le_refl, Nat.zero_le, true_and, and_true, true_or, or_true, false_or, or_false, reduceIte, haf, hat, y2, z2, kd_89, ix_89, y5, z5, ofN]
  refine ⟨fun q4 => k118 (Or.inl q4) _, fun q4 => ⟨fun q5 => k118 (Or.inr (Or.inl q5)) _, fun q5 => ⟨fun q6 => k118 (Or.inr (Or.inr (Or.inl q6))) _, fun q6 => ⟨fun q7 => k118 (Or.inr (Or.inr (Or.inr (Or.inl (by rw [y4]; exact q7))))) _, fun q7 => ⟨fun q8 => ?_, fun q8 => k118 (Or.inr (Or.inr (Or.inr (Or.inr (by rw [z4]; exact Int32.not_le.mp q8))))) _⟩⟩⟩⟩⟩
  have hnb : ¬ copyBad M f t y w v := fun z => by
    unfold copyBad at z
    rw [y4, z4] at z
    rcases z with z | z | z | z | z
    · exact q4 z
    · exact q5 z
    · exact q6 z
    · exact q7 z
    · exact absurd z (Int32.not_lt.mpr q8)
  -- the numbers
  have key : ∀ (x' : Int32) (pp : Nat), pp ≤ 60 → ¬ x' < 0 → x' ≤ nI pp - v → ∃ a n, x' = nI a ∧ v = nI n ∧ a + n ≤ pp := fun x' pp hpp h1 h2 => by
    have i1 := Int32.le_iff_toInt_le.mp (Int32.not_lt.mp h1)
    have i2 := Int32.le_iff_toInt_le.mp (Int32.not_lt.mp q4)
    have i3 := Int32.le_iff_toInt_le.mp h2
    have e0 : (0 : Int32).toInt = 0 := rfl
    have bv := v.toInt_lt
    rw [Int32.toInt_sub, nI_toI (by omega), Int.bmod_eq_of_le (by omega) (by omega)] at i3
    refine ⟨x'.toInt.toNat, v.toInt.toNat, ?_, ?_, by omega⟩
    · apply Int32.toInt_inj.mp
      rw [nI_toI (by omega)]
      omega
    · apply Int32.toInt_inj.mp
      rw [nI_toI (by omega)]
      omega
  obtain ⟨a, n, ea, en, han⟩ := key y p y3 q5 (Int32.not_lt.mp q7)
  obtain ⟨b, n', eb, en', hbn⟩ := key w p2 z3 q6 q8
  have hnn : n' = n := by
    rw [en, nI_eq_iff] at en'
    exact en'.symm
  subst hnn
  have H' := H v _ (Or.inl ⟨f, t, hcc, Or.inr ⟨hn4, Or.inr ⟨q3, Or.inr ⟨a, b, n', p, p2, hnb, ea, eb, en, y4, z4, y3, z3, han, hbn, rfl, rfl⟩⟩⟩⟩)
  unfold cyC at H'
  subst ea eb en
  have la : (nI a).toNatClampNeg = a := ncl (N := 61) (by omega)
  have lb : (nI b).toNatClampNeg = b := ncl (N := 61) (by omega)
  have ln : (nI n').toNatClampNeg = n' := ncl (N := 61) (by omega)
  apply h121
  simp only [B_X6_copy_121, o_al, o_gf, o_il, o_acpy, o_iret, nth_6, nth_2, nth_7, nth_4, nth_5, mV_5_3, al_5, kd_89, ix_89, cJ_89, cv_89, ix_5, cats_nil, cats_cons, rf_s, rf_n, isR_r, isR_n, isR_rf, cat_i, cat_l, cat_r, cat_n, cat_rf, unl_i, unl_l, unl_r, unl_n, unl_j, unl_rf, orf_r, orf_n, orf_rf, rf_null, mA_pm, mL_pm, mP_pm, List.length_cons, List.length_nil, List.cons_append, List.nil_append, Nat.reduceAdd, Nat.reduceLeDiff, Nat.reduceLT, Nat.reduceEqDiff, Nat.zero_add, Nat.add_zero, Nat.le_refl, Nat.zero_le, true_and, and_true, true_or, or_true, false_or, or_false, reduceIte, haf, hat, y2, z2, kd_89, ix_89, y5, z5, la, lb, ln, cJ_89, wr_89]
  exact ⟨nI_ge0 (by omega), nI_ge0 (by omega), nI_ge0 (by omega), han, hbn, H'⟩
theorem op_copy (h : INB L s c M B) (x y z w v : Int32) (H : ∀ r c1, PRE L s c1 → (∀ Q' : List Value → HP → Prop, (∀ M', INB L s c1 M' B → Q' [.int r] (pm c1 M')) → K_X7_copy l D (d + 20) [.ref (ob 7 0), .int x, .int y, .int z, .int w, .int v] (pm c1 M) Q') → Q [.int r] (pm c1 M)) : K_X6_copy l D (d + 20) [.ref (ob 6 0), .int x, .int y, .int z, .int w, .int v] (pm c M) Q := by
  obtain ⟨nw, hB, nT, nR, nA, hT2, hR2, hA2, hC, hG, hN, hL⟩ := id h
  obtain ⟨c1, c2, c3, c4, ⟨c5, c6, c7⟩, c8, c9⟩ := id hC
  have hP : ∀ t, t < nT → ∃ p, p ≤ 60 ∧ M.1 22 t = nI p := fun t ht => by
    obtain ⟨p, -, p2, p3⟩ := hG.1.2.2.2.2.2.2 t ht
    exact ⟨p, p2, p3⟩
  refine sp_copy6 c1 c2 hT2 c4.1.2.1 c4.2.1 hG.1.2.2.2.2.2.2 x y z w v (fun r c' hr => ?_)
  have hp : PRE L s c' := by
    rcases hr with ⟨f, t, -, hr⟩ | ⟨-, -, rfl⟩
    · rcases hr with ⟨-, -, rfl⟩ | ⟨-, ⟨-, -, rfl⟩ | ⟨-, ⟨-, -, rfl⟩ | ⟨a, b, n, p, q, -, -, -, -, -, -, -, -, -, -, -, rfl⟩⟩⟩
      · exact ⟨c3, hL⟩
      · exact ⟨c3, hL⟩
      · exact ⟨c3, hL⟩
      · exact ⟨c3, hL⟩
    · exact ⟨c3, hL⟩
  refine H r c' hp (fun Q' H' => ?_)
  refine sp_copy hp.1 hG.1.2.2.1 hT2 hP x y z w v (fun r' M' hr' => ?_)
  rcases hr with ⟨f, t, k1, hr⟩ | ⟨k1, rfl, rfl⟩ <;> rcases hr' with ⟨f', t', N', j1, j2, g⟩ | ⟨j1, rfl, g⟩
  · have hf : f' = f ∧ t' = t := by
      obtain ⟨a1, a2, a3, a4, -⟩ := k1
      obtain ⟨b1, b2, b3, b4, -⟩ := j1
      rw [a3, nI_eq_iff] at b3
      rw [a4, nI_eq_iff] at b4
      exact ⟨b3.symm, b4.symm⟩
    obtain ⟨rfl, rfl⟩ := hf
    rcases hr with ⟨m1, rfl, rfl⟩ | ⟨m1, m2⟩ <;> rcases j2 with ⟨n1, rfl, rfl⟩ | ⟨n1, n2⟩
    · exact H' _ (h.sc g)
    · exact absurd m1 n1
    · exact absurd n1 m1
    · rcases m2 with ⟨m2, rfl, rfl⟩ | ⟨m2, m3⟩ <;> rcases n2 with ⟨n2, rfl, rfl⟩ | ⟨n2, n3⟩
      · exact H' _ (h.sc g)
      · exact absurd n2 m2
      · exact absurd m2 n2
      · rcases m3 with ⟨m3, rfl, rfl⟩ | ⟨a, b, n, p, q, m3, rfl, rfl, rfl, e1, e2, e3, e4, e5, e6, rfl, rfl⟩ <;> rcases n3 with ⟨n3, rfl, rfl⟩ | ⟨n3, rfl, a', b', n', ⟨g1, g2, g3⟩, f1, f2, f3, rfl⟩
        · exact H' _ (h.sc g)
        · exact absurd m3 n3
        · exact absurd n3 m3
        · rw [nI_eq_iff] at f1 f2 f3
          subst f1 f2 f3
          exact H' _ (INB.sc ⟨nw, hB, INV.copy hT2 hR2 hA2 hC hG hN hL k1.1 k1.2.1 (fun z => m1 (Or.inl z)) (fun z => m1 (Or.inr z)) e1 e2 e3 e4 e5 e6⟩ g)
  · exact absurd k1 (j1 f t)
  · exact absurd j1 (k1 f' t')
  · exact H' _ (h.sc g)
end ZCYb
