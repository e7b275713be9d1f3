/-! The model: the tape that is chosen -/
def tpN (M : MD) (k : Nat) : Nat := (M.1 26 k).toNatClampNeg
abbrev hmP (M : MD) (t : Nat) : Prop := M.1 24 t = 0 ∧ ¬ (M.1 43 0 = nI t ∨ M.1 43 1 = nI t)
def callP (M : MD) (k : Nat) : Prop := M.1 30 k = 0 ∧ ¬ M.1 25 k = 3 ∧ hmP M (tpN M k)
def dueP (M : MD) (k : Nat) : Prop := callP M k ∧ M.1 7 11 ≤ M.1 7 9 - M.1 29 k
def scrP (M : MD) (k : Nat) : Prop := M.1 30 k = 0 ∧ M.1 25 k = 3 ∧ hmP M (tpN M k)
def betP (M : MD) (y : Int32) (nA t t' : Nat) : Prop := worF M t' y nA < worF M t y nA ∨ (worF M t' y nA = worF M t y nA ∧ t ≤ t')
def topP (M : MD) (y : Int32) (nA n i : Nat) : Prop := i < n ∧ callP M i ∧ ∀ j, j < n → callP M j → betP M y nA (tpN M i) (tpN M j)
def fstP (M : MD) (n i : Nat) : Prop := i < n ∧ scrP M i ∧ ∀ j, j < n → scrP M j → (M.1 27 i < M.1 27 j ∨ (M.1 27 i = M.1 27 j ∧ i ≤ j))
def scrOk (M : MD) (nA i : Nat) : Prop := (∀ j, j < nA → M.1 30 j = 0 → M.1 25 j = 3) ∨ ¬ 0 < lg_cmp (M.1 27 i).toInt64 ((M.1 7 9).toInt64 + 100)
def ChR (M : MD) (y : Int32) (nA : Nat) (r : Int32) : Prop := (∃ k, k < nA ∧ dueP M k ∧ (∀ j, j < k → ¬ dueP M j) ∧ r = M.1 26 k) ∨ ((∀ k, k < nA → ¬ dueP M k) ∧ ((∃ i, topP M y nA nA i ∧ ¬ worF M (tpN M i) y nA < M.1 7 10 ∧ r = M.1 26 i) ∨ ((∀ i, topP M y nA nA i → worF M (tpN M i) y nA < M.1 7 10) ∧ ((∃ i, fstP M nA i ∧ scrOk M nA i ∧ r = M.1 26 i) ∨ ((∀ i, fstP M nA i → ¬ scrOk M nA i) ∧ r = -1)))))
theorem fstP_uni {M : MD} {n i j : Nat} (h : fstP M n i) (g : fstP M n j) : i = j := by
  have h1 := h.2.2 j g.1 g.2.1
  have g1 := g.2.2 i h.1 h.2.1
  rcases h1 with h1 | ⟨h1, h2⟩ <;> rcases g1 with g1 | ⟨g1, g2⟩
  · exact (Int32.lt_irrefl (Int32.lt_trans h1 g1)).elim
  · rw [g1] at h1; exact (Int32.lt_irrefl h1).elim
  · rw [h1] at g1; exact (Int32.lt_irrefl g1).elim
  · omega
theorem topP_uni {M : MD} {y : Int32} {nA n i j : Nat} (h : topP M y nA n i) (g : topP M y nA n j) : tpN M i = tpN M j := by
  have h1 := h.2.2 j g.1 g.2.1
  have g1 := g.2.2 i h.1 h.2.1
  rcases h1 with h1 | ⟨h1, h2⟩ <;> rcases g1 with g1 | ⟨g1, g2⟩
  · exact (Int32.lt_irrefl (Int32.lt_trans h1 g1)).elim
  · rw [g1] at h1; exact (Int32.lt_irrefl h1).elim
  · rw [h1] at g1; exact (Int32.lt_irrefl g1).elim
  · omega
/-- the loop's own numbers, up to n -/
def ChO (M : MD) (n : Nat) (o : Int32) : Prop := (o = 1 ∧ ∃ j, j < n ∧ M.1 30 j = 0 ∧ ¬ M.1 25 j = 3) ∨ (o = 0 ∧ ∀ j, j < n → M.1 30 j = 0 → M.1 25 j = 3)
def ChS (M : MD) (n : Nat) (s : Int32) : Prop := (s = -1 ∧ ∀ j, j < n → ¬ scrP M j) ∨ ∃ i, s = nI i ∧ fstP M n i
def ChB (M : MD) (y : Int32) (nA n : Nat) (b mo : Int32) : Prop := (b = -1 ∧ ∀ j, j < n → ¬ callP M j) ∨ ∃ i, b = M.1 26 i ∧ mo = worF M (tpN M i) y nA ∧ topP M y nA n i
theorem nI_m1 {i : Nat} (h : i < 2147483648) : ¬ nI i = -1 := fun z => by
  have h1 := congrArg Int32.toInt z
  rw [nI_toI h, show (-1 : Int32).toInt = -1 by decide] at h1
  omega
theorem lt_or_eq32 {a b : Int32} (h : ¬ b < a) : a < b ∨ a = b := by
  by_cases e : a = b
  · exact Or.inr e
  · exact Or.inl (Int32.lt_of_le_of_ne (Int32.not_lt.mp h) e)
theorem betP_rf (M : MD) (y : Int32) (nA t : Nat) : betP M y nA t t := Or.inr ⟨rfl, Nat.le_refl _⟩
theorem betP_tr {M : MD} {y : Int32} {nA a b e : Nat} (h : betP M y nA a b) (g : betP M y nA b e) : betP M y nA a e := by
  rcases h with h | ⟨h1, h2⟩ <;> rcases g with g | ⟨g1, g2⟩
  · exact Or.inl (Int32.lt_trans g h)
  · exact Or.inl (by rw [g1]; exact h)
  · exact Or.inl (by rw [← h1]; exact g)
  · exact Or.inr ⟨g1.trans h1, by omega⟩
theorem nx {p : Nat → Prop} {k : Nat} (h : ∀ j, j < k → p j) (q : p k) : ∀ j, j < k + 1 → p j := fun j hj => by
  rcases Nat.lt_or_ge j k with z | z
  · exact h j z
  · rw [show j = k by omega]; exact q
theorem ChS_skip {M : MD} {k : Nat} {s : Int32} (h : ChS M k s) (q : ¬ scrP M k) : ChS M (k + 1) s := by
  rcases h with ⟨h1, h2⟩ | ⟨i, h1, h2, h3, h4⟩
  · exact Or.inl ⟨h1, nx h2 q⟩
  · exact Or.inr ⟨i, h1, by omega, h3, nx h4 (fun z => absurd z q)⟩
theorem ChS_keep {M : MD} {k i : Nat} (h : fstP M k i) (q : ¬ M.1 27 k < M.1 27 i) : ChS M (k + 1) (nI i) := by
  obtain ⟨h1, h2, h3⟩ := h
  refine Or.inr ⟨i, rfl, by omega, h2, nx h3 (fun _ => ?_)⟩
  rcases lt_or_eq32 q with z | z
  · exact Or.inl z
  · exact Or.inr ⟨z, by omega⟩
theorem ChS_new {M : MD} {k : Nat} (h : ∀ j, j < k → scrP M j → M.1 27 k < M.1 27 j) (q : scrP M k) : ChS M (k + 1) (nI k) := Or.inr ⟨k, rfl, by omega, q, nx (fun j hj z => Or.inl (h j hj z)) (fun _ => Or.inr ⟨rfl, Nat.le_refl _⟩)⟩
theorem ChB_skip {M : MD} {y : Int32} {nA k : Nat} {b mo : Int32} (h : ChB M y nA k b mo) (q : ¬ callP M k) : ChB M y nA (k + 1) b mo := by
  rcases h with ⟨h1, h2⟩ | ⟨i, h1, h2, h3, h4, h5⟩
  · exact Or.inl ⟨h1, nx h2 q⟩
  · exact Or.inr ⟨i, h1, h2, by omega, h4, nx h5 (fun z => absurd z q)⟩
theorem ChB_keep {M : MD} {y : Int32} {nA k i : Nat} (h : topP M y nA k i) (q : betP M y nA (tpN M i) (tpN M k)) : ChB M y nA (k + 1) (M.1 26 i) (worF M (tpN M i) y nA) := Or.inr ⟨i, rfl, rfl, by have := h.1; omega, h.2.1, nx h.2.2 (fun _ => q)⟩
theorem ChB_new {M : MD} {y : Int32} {nA k : Nat} (h : ∀ j, j < k → callP M j → betP M y nA (tpN M k) (tpN M j)) (q : callP M k) : ChB M y nA (k + 1) (M.1 26 k) (worF M (tpN M k) y nA) := Or.inr ⟨k, rfl, rfl, by omega, q, nx h (fun _ => betP_rf _ _ _ _)⟩
section ZM11
variable {l : Launch} {D : DD} {d : Nat} {c : HP} {M : MD} {Q : List Value → HP → Prop}
theorem sp_chosen (hs : SKM c) {nT nA : Nat} (hA : M.1 7 8 = nI nA) (hA2 : nA ≤ 150) (hT2 : nT ≤ 12) (hG : GA M nT nA) (y : Int32) (H : ∀ r, ChR M y nA r → Q [.int r] (pm c M)) : K_X7_chosen l D (d + 3) [.ref (ob 7 0), .int y] (pm c M) Q := by
  refine m_X7_chosen (lsA := [.ref (ob 7 0), .int y, jk, jk, jk, jk, jk, jk, jk]) rfl (Nat.le_of_ble_eq_true rfl) ?_
  intro X h0 h13 h35 h59 h63 h64 h77 h109 h115 h137 h173 h181 h187 h205 h234 h243 h244
  have hT : ∀ k, k < nA → M.1 26 k = nI (tpN M k) ∧ tpN M k < 12 := by
    intro k hk
    obtain ⟨t, p, g1, g2, -⟩ := hG k hk
    have ht : t < 12 := by omega
    have e : tpN M k = t := by unfold tpN; rw [g2, ncl ht]
    rw [e]
    exact ⟨g2, ht⟩
  have loop : ∀ m k (o s b mo : Int32) w7 w8, k + m = nA → (∀ j, j < k → ¬ dueP M j) → ChO M k o → ChS M k s → ChB M y nA k b mo → X 13 [.ref (ob 7 0), .int y, .int o, .int s, .int b, .int mo, .int (nI k), w7, w8] [] (pm c M) 0 0 := by
    intro m
    induction m with
    | zero =>
      intro k o s b mo w7 w8 hk hd hO hS hB
      obtain rfl : k = nA := by omega
      apply h13
      simp only [B_X7_chosen_13, o_il, o_al, o_gf, o_ic2, o_iald, o_if, nth_6, nth_0, mV_7_8, al_7, hs.a7, rm_7, ix_7, mV_7_17, hs.p17, kd_30, ix_30, hs.l30, rm_30, wm_30, cats_nil, cats_cons, rf_s, rf_n, isR_r, isR_n, isR_rf, cat_i, cat_l, cat_r, cat_n, cat_rf, unl_i, unl_l, unl_r, unl_n, unl_j, unl_rf, orf_r, orf_n, orf_rf, rf_null, mA_pm, mL_pm, mP_pm, List.length_cons, List.length_nil, List.cons_append, List.nil_append, Nat.reduceAdd, Nat.reduceLeDiff, Nat.reduceLT, Nat.reduceEqDiff, Nat.zero_add, Nat.add_zero, Nat.le_refl, Nat.zero_le, true_and, and_true, true_or, or_true, false_or, or_false, reduceIte, hA]
      refine ⟨fun _ => ?_, fun z => absurd (nI_le (by omega) (by omega)) z⟩
      have k205 : (∀ i, topP M y k k i → worF M (tpN M i) y k < M.1 7 10) → X 205 [.ref (ob 7 0), .int y, .int o, .int s, .int b, .int mo, .int (nI k), w7, w8] [] (pm c M) 0 0 := by
        intro htop
        have kno : (∀ i, fstP M k i → ¬ scrOk M k i) → X 243 [.ref (ob 7 0), .int y, .int o, .int s, .int b, .int mo, .int (nI k), w7, w8] [] (pm c M) 0 0 := by
          intro q
          apply h243
          simp only [B_X7_chosen_243, o_ic, cats_nil, cats_cons, rf_s, rf_n, isR_r, isR_n, isR_rf, cat_i, cat_l, cat_r, cat_n, cat_rf, unl_i, unl_l, unl_r, unl_n, unl_j, unl_rf, orf_r, orf_n, orf_rf, rf_null, mA_pm, mL_pm, mP_pm, List.length_cons, List.length_nil, List.cons_append, List.nil_append, Nat.reduceAdd, Nat.reduceLeDiff, Nat.reduceLT, Nat.reduceEqDiff, Nat.zero_add, Nat.add_zero, Nat.le_refl, Nat.zero_le, true_and, and_true, true_or, or_true, false_or, or_false, reduceIte]
          apply h244
          simp only [B_X7_chosen_244, o_iret, cats_nil, cats_cons, rf_s, rf_n, isR_r, isR_n, isR_rf, cat_i, cat_l, cat_r, cat_n, cat_rf, unl_i, unl_l, unl_r, unl_n, unl_j, unl_rf, orf_r, orf_n, orf_rf, rf_null, mA_pm, mL_pm, mP_pm, List.length_cons, List.length_nil, List.cons_append, List.nil_append, Nat.reduceAdd, Nat.reduceLeDiff, Nat.reduceLT, Nat.reduceEqDiff, Nat.zero_add, Nat.add_zero, Nat.le_refl, Nat.zero_le, true_and, and_true, true_or, or_true, false_or, or_false, reduceIte]
          exact H (-1) (Or.inr ⟨hd, Or.inr ⟨htop, Or.inr ⟨q, rfl⟩⟩⟩)
        rcases hS with ⟨rfl, hS⟩ | ⟨i, rfl, hS⟩
        · apply h205
          simp only [B_X7_chosen_205, o_il, o_ic, o_ic2, o_if, o_al, o_gf, o_iald, o_i2l, o_lc, o_jj, o_lcmp, nth_3, nth_2, nth_0, mV_7_14, al_7, hs.a7, hs.p14, kd_27, ix_27, hs.l27, rm_27, wm_27, ix_7, mV_7_9, rm_7, cats_nil, cats_cons, rf_s, rf_n, isR_r, isR_n, isR_rf, cat_i, cat_l, cat_r, cat_n, cat_rf, unl_i, unl_l, unl_r, unl_n, unl_j, unl_rf, orf_r, orf_n, orf_rf, rf_null, mA_pm, mL_pm, mP_pm, List.length_cons, List.length_nil, List.cons_append, List.nil_append, Nat.reduceAdd, Nat.reduceLeDiff, Nat.reduceLT, Nat.reduceEqDiff, Nat.zero_add, Nat.add_zero, Nat.le_refl, Nat.zero_le, true_and, and_true, true_or, or_true, false_or, or_false, reduceIte]
          exact ⟨fun _ => kno (fun i z => absurd z.2.1 (hS i z.1)), fun z => absurd trivial z⟩
        · have hi2 : i < 150 := by have := hS.1; omega
          have kyes : scrOk M k i → X 234 [.ref (ob 7 0), .int y, .int o, .int (nI i), .int b, .int mo, .int (nI k), w7, w8] [] (pm c M) 0 0 := by
            intro q
            apply h234
            simp only [B_X7_chosen_234, o_al, o_gf, o_il, o_iald, nth_0, nth_3, mV_7_13, al_7, hs.a7, hs.p13, kd_26, ix_26, hs.l26, rm_26, wm_26, ix_7, cats_nil, cats_cons, rf_s, rf_n, isR_r, isR_n, isR_rf, cat_i, cat_l, cat_r, cat_n, cat_rf, unl_i, unl_l, unl_r, unl_n, unl_j, unl_rf, orf_r, orf_n, orf_rf, rf_null, mA_pm, mL_pm, mP_pm, List.length_cons, List.length_nil, List.cons_append, List.nil_append, Nat.reduceAdd, Nat.reduceLeDiff, Nat.reduceLT, Nat.reduceEqDiff, Nat.zero_add, Nat.add_zero, Nat.le_refl, Nat.zero_le, true_and, and_true, true_or, or_true, false_or, or_false, reduceIte, vin hi2, ncl hi2]
            apply h244
            simp only [B_X7_chosen_244, o_iret, cats_nil, cats_cons, rf_s, rf_n, isR_r, isR_n, isR_rf, cat_i, cat_l, cat_r, cat_n, cat_rf, unl_i, unl_l, unl_r, unl_n, unl_j, unl_rf, orf_r, orf_n, orf_rf, rf_null, mA_pm, mL_pm, mP_pm, List.length_cons, List.length_nil, List.cons_append, List.nil_append, Nat.reduceAdd, Nat.reduceLeDiff, Nat.reduceLT, Nat.reduceEqDiff, Nat.zero_add, Nat.add_zero, Nat.le_refl, Nat.zero_le, true_and, and_true, true_or, or_true, false_or, or_false, reduceIte]
            exact H _ (Or.inr ⟨hd, Or.inr ⟨htop, Or.inl ⟨i, hS, q, rfl⟩⟩⟩)
          apply h205
          simp only [B_X7_chosen_205, o_il, o_ic, o_ic2, o_if, o_al, o_gf, o_iald, o_i2l, o_lc, o_jj, o_lcmp, nth_3, nth_2, nth_0, mV_7_14, al_7, hs.a7, hs.p14, kd_27, ix_27, hs.l27, rm_27, wm_27, ix_7, mV_7_9, rm_7, cats_nil, cats_cons, rf_s, rf_n, isR_r, isR_n, isR_rf, cat_i, cat_l, cat_r, cat_n, cat_rf, unl_i, unl_l, unl_r, unl_n, unl_j, unl_rf, orf_r, orf_n, orf_rf, rf_null, mA_pm, mL_pm, mP_pm, List.length_cons, List.length_nil, List.cons_append, List.nil_append, Nat.reduceAdd, Nat.reduceLeDiff, Nat.reduceLT, Nat.reduceEqDiff, Nat.zero_add, Nat.add_zero, Nat.le_refl, Nat.zero_le, true_and, and_true, true_or, or_true, false_or, or_false, reduceIte, vin hi2, ncl hi2]
          refine ⟨fun z => absurd z (nI_m1 (by omega)), fun _ => ⟨fun z => kyes (Or.inl ?_), fun z => ⟨fun z2 => kno (fun i' z3 z4 => ?_), fun z2 => kyes (Or.inr z2)⟩⟩⟩
          · rcases hO with ⟨rfl, -⟩ | ⟨-, h⟩
            · exact absurd z (by decide)
            · exact h
          · rw [fstP_uni z3 hS] at z4
            rcases z4 with z4 | z4
            · rcases hO with ⟨-, j, j1, j2, j3⟩ | ⟨h, -⟩
              · exact j3 (z4 j j1 j2)
              · exact z h
            · exact z4 z2
      apply h187
      simp only [B_X7_chosen_187, o_il, o_ic, o_ic2, o_al, o_gf, o_iret, nth_4, nth_5, nth_0, mV_7_10, al_7, hs.a7, rm_7, ix_7, cats_nil, cats_cons, rf_s, rf_n, isR_r, isR_n, isR_rf, cat_i, cat_l, cat_r, cat_n, cat_rf, unl_i, unl_l, unl_r, unl_n, unl_j, unl_rf, orf_r, orf_n, orf_rf, rf_null, mA_pm, mL_pm, mP_pm, List.length_cons, List.length_nil, List.cons_append, List.nil_append, Nat.reduceAdd, Nat.reduceLeDiff, Nat.reduceLT, Nat.reduceEqDiff, Nat.zero_add, Nat.add_zero, Nat.le_refl, Nat.zero_le, true_and, and_true, true_or, or_true, false_or, or_false, reduceIte]
      rcases hB with ⟨rfl, hB⟩ | ⟨i, rfl, rfl, hB⟩
      · refine ⟨fun _ => k205 (fun i z => absurd z.2.1 (hB i z.1)), fun z => by first | exact absurd rfl z | exact absurd trivial z⟩
      · refine ⟨fun z => ?_, fun _ => ⟨fun z => k205 (fun i' z2 => by rw [topP_uni z2 hB]; exact z), fun z => H _ (Or.inr ⟨hd, Or.inl ⟨i, hB, z, rfl⟩⟩)⟩⟩
        obtain ⟨u1, u2⟩ := hT i hB.1
        rw [u1] at z
        exact absurd z (nI_m1 (by omega))
    | succ m ih =>
      intro k o s b mo w7 w8 hk hd hO hS hB
      have hkn : k < nA := by omega
      have hk2 : k < 150 := by omega
      obtain ⟨t1, t2⟩ := hT k hkn
      have k181 : ∀ (o s b mo : Int32) w7 w8, (∀ j, j < k + 1 → ¬ dueP M j) → ChO M (k + 1) o → ChS M (k + 1) s → ChB M y nA (k + 1) b mo → X 181 [.ref (ob 7 0), .int y, .int o, .int s, .int b, .int mo, .int (nI k), w7, w8] [] (pm c M) 0 0 := by
        intro o s b mo w7 w8 q1 q2 q3 q4
        apply h181
        simp only [B_X7_chosen_181, o_inc, nth_6, lset_6, cats_nil, cats_cons, rf_s, rf_n, isR_r, isR_n, isR_rf, cat_i, cat_l, cat_r, cat_n, cat_rf, unl_i, unl_l, unl_r, unl_n, unl_j, unl_rf, orf_r, orf_n, orf_rf, rf_null, mA_pm, mL_pm, mP_pm, List.length_cons, List.length_nil, List.cons_append, List.nil_append, Nat.reduceAdd, Nat.reduceLeDiff, Nat.reduceLT, Nat.reduceEqDiff, Nat.zero_add, Nat.add_zero, Nat.le_refl, Nat.zero_le, true_and, and_true, true_or, or_true, false_or, or_false, reduceIte, nI_1]
        exact ih (k + 1) o s b mo w7 w8 (by omega) q1 q2 q3 q4
      apply h13
      simp only [B_X7_chosen_13, o_il, o_al, o_gf, o_ic2, o_iald, o_if, nth_6, nth_0, mV_7_8, al_7, hs.a7, rm_7, ix_7, mV_7_17, hs.p17, kd_30, ix_30, hs.l30, rm_30, wm_30, cats_nil, cats_cons, rf_s, rf_n, isR_r, isR_n, isR_rf, cat_i, cat_l, cat_r, cat_n, cat_rf, unl_i, unl_l, unl_r, unl_n, unl_j, unl_rf, orf_r, orf_n, orf_rf, rf_null, mA_pm, mL_pm, mP_pm, List.length_cons, List.length_nil, List.cons_append, List.nil_append, Nat.reduceAdd, Nat.reduceLeDiff, Nat.reduceLT, Nat.reduceEqDiff, Nat.zero_add, Nat.add_zero, Nat.le_refl, Nat.zero_le, true_and, and_true, true_or, or_true, false_or, or_false, reduceIte, hA, vin hk2, ncl hk2]
      refine ⟨fun z => absurd z (by rw [nI_le_iff]; omega), fun _ => ⟨fun q => ?_, fun q => ?_⟩⟩
      · have k64 : ∀ o' : Int32, ChO M (k + 1) o' → X 64 [.ref (ob 7 0), .int y, .int o, .int s, .int b, .int mo, .int (nI k), .int (nI (tpN M k)), w8] [.int o'] (pm c M) 0 0 := by
          intro o' hO'
          apply h64
          simp only [B_X7_chosen_64, o_is, o_al, o_il, o_if, lset_2, nth_0, nth_7, opV_1, al_7, ix_7, hs.a7, cats_nil, cats_cons, rf_s, rf_n, isR_r, isR_n, isR_rf, cat_i, cat_l, cat_r, cat_n, cat_rf, unl_i, unl_l, unl_r, unl_n, unl_j, unl_rf, orf_r, orf_n, orf_rf, rf_null, mA_pm, mL_pm, mP_pm, List.length_cons, List.length_nil, List.cons_append, List.nil_append, Nat.reduceAdd, Nat.reduceLeDiff, Nat.reduceLT, Nat.reduceEqDiff, Nat.zero_add, Nat.add_zero, Nat.le_refl, Nat.zero_le, true_and, and_true, true_or, or_true, false_or, or_false, reduceIte]
          refine sp_isAtHome hs t2 ?_
          simp only [o_is, o_al, o_il, o_if, lset_2, nth_0, nth_7, opV_1, al_7, ix_7, hs.a7, cats_nil, cats_cons, rf_s, rf_n, isR_r, isR_n, isR_rf, cat_i, cat_l, cat_r, cat_n, cat_rf, unl_i, unl_l, unl_r, unl_n, unl_j, unl_rf, orf_r, orf_n, orf_rf, rf_null, mA_pm, mL_pm, mP_pm, List.length_cons, List.length_nil, List.cons_append, List.nil_append, Nat.reduceAdd, Nat.reduceLeDiff, Nat.reduceLT, Nat.reduceEqDiff, Nat.zero_add, Nat.add_zero, Nat.le_refl, Nat.zero_le, true_and, and_true, true_or, or_true, false_or, or_false, reduceIte]
          refine ⟨fun z => ?_, fun z => ?_⟩
          · have z' : ¬ hmP M (tpN M k) := bi_e0 z
            exact k181 _ _ _ _ _ _ (nx hd (fun h => z' h.1.2.2)) hO' (ChS_skip hS (fun h => z' h.2.2)) (ChB_skip hB (fun h => z' h.2.2))
          · have z' : hmP M (tpN M k) := bi_ne0 z
            apply h77
            simp only [B_X7_chosen_77, o_al, o_gf, o_il, o_iald, o_ic, o_ic2, nth_0, nth_6, nth_3, mV_7_12, al_7, hs.a7, hs.p12, kd_25, ix_25, hs.l25, rm_25, wm_25, ix_7, mV_7_14, hs.p14, kd_27, ix_27, hs.l27, rm_27, wm_27, cats_nil, cats_cons, rf_s, rf_n, isR_r, isR_n, isR_rf, cat_i, cat_l, cat_r, cat_n, cat_rf, unl_i, unl_l, unl_r, unl_n, unl_j, unl_rf, orf_r, orf_n, orf_rf, rf_null, mA_pm, mL_pm, mP_pm, List.length_cons, List.length_nil, List.cons_append, List.nil_append, Nat.reduceAdd, Nat.reduceLeDiff, Nat.reduceLT, Nat.reduceEqDiff, Nat.zero_add, Nat.add_zero, Nat.le_refl, Nat.zero_le, true_and, and_true, true_or, or_true, false_or, or_false, reduceIte, vin hk2, ncl hk2]
            refine ⟨fun q3 => ?_, fun q3 => ?_⟩
            · have hsk : scrP M k := ⟨q, q3, z'⟩
              have hnc : ¬ callP M k := fun h => h.2.1 q3
              have k109 : (∀ j, j < k → scrP M j → M.1 27 k < M.1 27 j) → X 109 [.ref (ob 7 0), .int y, .int o', .int s, .int b, .int mo, .int (nI k), .int (nI (tpN M k)), w8] [] (pm c M) 0 0 := by
                intro h
                apply h109
                simp only [B_X7_chosen_109, o_il, o_is, nth_6, lset_3, cats_nil, cats_cons, rf_s, rf_n, isR_r, isR_n, isR_rf, cat_i, cat_l, cat_r, cat_n, cat_rf, unl_i, unl_l, unl_r, unl_n, unl_j, unl_rf, orf_r, orf_n, orf_rf, rf_null, mA_pm, mL_pm, mP_pm, List.length_cons, List.length_nil, List.cons_append, List.nil_append, Nat.reduceAdd, Nat.reduceLeDiff, Nat.reduceLT, Nat.reduceEqDiff, Nat.zero_add, Nat.add_zero, Nat.le_refl, Nat.zero_le, true_and, and_true, true_or, or_true, false_or, or_false, reduceIte]
                exact k181 _ _ _ _ _ _ (nx hd (fun h => hnc h.1)) hO' (ChS_new h hsk) (ChB_skip hB hnc)
              rcases hS with ⟨rfl, hS⟩ | ⟨i, rfl, hS⟩
              · refine ⟨fun _ => k109 (fun j hj h => absurd h (hS j hj)), fun z => by first | exact absurd rfl z | exact absurd trivial z⟩
              · have hi2 : i < 150 := by have := hS.1; omega
                simp only [vin hi2, ncl hi2, true_and, and_true]
                refine ⟨fun z => absurd z (nI_m1 (by omega)), fun _ => ⟨fun z2 => ?_, fun z2 => k109 (fun j hj h => ?_)⟩⟩
                · exact k181 _ _ _ _ _ _ (nx hd (fun h => hnc h.1)) hO' (ChS_keep hS (Int32.not_lt.mpr z2)) (ChB_skip hB hnc)
                · rcases hS.2.2 j hj h with y1 | ⟨y1, -⟩
                  · exact Int32.lt_trans (Int32.not_le.mp z2) y1
                  · rw [← y1]; exact Int32.not_le.mp z2
            · have hck : callP M k := ⟨q, q3, z'⟩
              have hns : ¬ scrP M k := fun h => q3 h.2.1
              apply h115
              simp only [B_X7_chosen_115, o_al, o_gf, o_il, o_iald, o_ii, o_ic2, o_iret, nth_0, nth_6, nth_7, mV_7_9, al_7, hs.a7, rm_7, ix_7, mV_7_16, hs.p16, kd_29, ix_29, hs.l29, rm_29, wm_29, mV_7_11, cats_nil, cats_cons, rf_s, rf_n, isR_r, isR_n, isR_rf, cat_i, cat_l, cat_r, cat_n, cat_rf, unl_i, unl_l, unl_r, unl_n, unl_j, unl_rf, orf_r, orf_n, orf_rf, rf_null, mA_pm, mL_pm, mP_pm, List.length_cons, List.length_nil, List.cons_append, List.nil_append, Nat.reduceAdd, Nat.reduceLeDiff, Nat.reduceLT, Nat.reduceEqDiff, Nat.zero_add, Nat.add_zero, Nat.le_refl, Nat.zero_le, true_and, and_true, true_or, or_true, false_or, or_false, reduceIte, vin hk2, ncl hk2]
              refine ⟨fun q4 => ?_, fun q4 => ?_⟩
              · have hd' := nx hd (fun h : dueP M k => absurd q4 (Int32.not_lt.mpr h.2))
                have k173 : (∀ j, j < k → callP M j → betP M y nA (tpN M k) (tpN M j)) → X 173 [.ref (ob 7 0), .int y, .int o', .int s, .int b, .int mo, .int (nI k), .int (nI (tpN M k)), .int (worF M (tpN M k) y nA)] [] (pm c M) 0 0 := by
                  intro h
                  apply h173
                  simp only [B_X7_chosen_173, o_il, o_is, nth_7, lset_4, nth_8, lset_5, cats_nil, cats_cons, rf_s, rf_n, isR_r, isR_n, isR_rf, cat_i, cat_l, cat_r, cat_n, cat_rf, unl_i, unl_l, unl_r, unl_n, unl_j, unl_rf, orf_r, orf_n, orf_rf, rf_null, mA_pm, mL_pm, mP_pm, List.length_cons, List.length_nil, List.cons_append, List.nil_append, Nat.reduceAdd, Nat.reduceLeDiff, Nat.reduceLT, Nat.reduceEqDiff, Nat.zero_add, Nat.add_zero, Nat.le_refl, Nat.zero_le, true_and, and_true, true_or, or_true, false_or, or_false, reduceIte]
                  rw [← t1]
                  exact k181 _ _ _ _ _ _ hd' hO' (ChS_skip hS hns) (ChB_new h hck)
                apply h137
                simp only [B_X7_chosen_137, o_al, o_il, o_is, o_ic, o_ic2, nth_0, nth_7, nth_1, lset_8, nth_4, nth_8, nth_5, opV_2, al_7, ix_7, hs.a7, cats_nil, cats_cons, rf_s, rf_n, isR_r, isR_n, isR_rf, cat_i, cat_l, cat_r, cat_n, cat_rf, unl_i, unl_l, unl_r, unl_n, unl_j, unl_rf, orf_r, orf_n, orf_rf, rf_null, mA_pm, mL_pm, mP_pm, List.length_cons, List.length_nil, List.cons_append, List.nil_append, Nat.reduceAdd, Nat.reduceLeDiff, Nat.reduceLT, Nat.reduceEqDiff, Nat.zero_add, Nat.add_zero, Nat.le_refl, Nat.zero_le, true_and, and_true, true_or, or_true, false_or, or_false, reduceIte]
                refine sp_worth hs hA hA2 t2 y ?_
                simp only [o_al, o_il, o_is, o_ic, o_ic2, nth_0, nth_7, nth_1, lset_8, nth_4, nth_8, nth_5, opV_2, al_7, ix_7, hs.a7, cats_nil, cats_cons, rf_s, rf_n, isR_r, isR_n, isR_rf, cat_i, cat_l, cat_r, cat_n, cat_rf, unl_i, unl_l, unl_r, unl_n, unl_j, unl_rf, orf_r, orf_n, orf_rf, rf_null, mA_pm, mL_pm, mP_pm, List.length_cons, List.length_nil, List.cons_append, List.nil_append, Nat.reduceAdd, Nat.reduceLeDiff, Nat.reduceLT, Nat.reduceEqDiff, Nat.zero_add, Nat.add_zero, Nat.le_refl, Nat.zero_le, true_and, and_true, true_or, or_true, false_or, or_false, reduceIte]
                rcases hB with ⟨rfl, hB⟩ | ⟨i, rfl, rfl, hB⟩
                · refine ⟨fun _ => k173 (fun j hj h => absurd h (hB j hj)), fun z => by first | exact absurd rfl z | exact absurd trivial z⟩
                · obtain ⟨u1, u2⟩ := hT i (by have := hB.1; omega)
                  have k173' : betP M y nA (tpN M k) (tpN M i) → _ := fun hb => k173 (fun j hj h => betP_tr hb (hB.2.2 j hj h))
                  refine ⟨fun z => ?_, fun _ => ⟨fun z2 => k173' (Or.inl z2), fun z2 => ⟨fun z3 => ⟨fun z4 => ?_, fun z4 => k173' (Or.inr ⟨z3.symm, ?_⟩)⟩, fun z3 => ?_⟩⟩⟩
                  · rw [u1] at z
                    exact absurd z (nI_m1 (by omega))
                  · rw [u1, nI_le_iff] at z4
                    exact k181 _ _ _ _ _ _ hd' hO' (ChS_skip hS hns) (ChB_keep hB (Or.inr ⟨z3, z4⟩))
                  · rw [u1, nI_le_iff] at z4
                    omega
                  · refine k181 _ _ _ _ _ _ hd' hO' (ChS_skip hS hns) (ChB_keep hB (Or.inl ?_))
                    rcases lt_or_eq32 z2 with z5 | z5
                    · exact z5
                    · exact absurd z5 z3
              · exact H _ (Or.inl ⟨k, hkn, ⟨hck, Int32.not_lt.mp q4⟩, hd, t1.symm⟩)
        have hO1 : ¬ M.1 25 k = 3 → ChO M (k + 1) 1 := fun z => Or.inl ⟨rfl, k, by omega, q, z⟩
        have k59 : ChO M (k + 1) 1 → X 59 [.ref (ob 7 0), .int y, .int o, .int s, .int b, .int mo, .int (nI k), .int (nI (tpN M k)), w8] [] (pm c M) 0 0 := by
          intro h
          apply h59
          simp only [B_X7_chosen_59, o_ic, cats_nil, cats_cons, rf_s, rf_n, isR_r, isR_n, isR_rf, cat_i, cat_l, cat_r, cat_n, cat_rf, unl_i, unl_l, unl_r, unl_n, unl_j, unl_rf, orf_r, orf_n, orf_rf, rf_null, mA_pm, mL_pm, mP_pm, List.length_cons, List.length_nil, List.cons_append, List.nil_append, Nat.reduceAdd, Nat.reduceLeDiff, Nat.reduceLT, Nat.reduceEqDiff, Nat.zero_add, Nat.add_zero, Nat.le_refl, Nat.zero_le, true_and, and_true, true_or, or_true, false_or, or_false, reduceIte]
          exact k64 1 h
        apply h35
        simp only [B_X7_chosen_35, o_al, o_gf, o_il, o_iald, o_is, o_if, o_ic, o_ic2, nth_0, nth_6, lset_7, nth_2, mV_7_13, al_7, hs.a7, hs.p13, kd_26, ix_26, hs.l26, rm_26, wm_26, ix_7, mV_7_12, hs.p12, kd_25, ix_25, hs.l25, rm_25, wm_25, cats_nil, cats_cons, rf_s, rf_n, isR_r, isR_n, isR_rf, cat_i, cat_l, cat_r, cat_n, cat_rf, unl_i, unl_l, unl_r, unl_n, unl_j, unl_rf, orf_r, orf_n, orf_rf, rf_null, mA_pm, mL_pm, mP_pm, List.length_cons, List.length_nil, List.cons_append, List.nil_append, Nat.reduceAdd, Nat.reduceLeDiff, Nat.reduceLT, Nat.reduceEqDiff, Nat.zero_add, Nat.add_zero, Nat.le_refl, Nat.zero_le, true_and, and_true, true_or, or_true, false_or, or_false, reduceIte, vin hk2, ncl hk2, t1]
        refine ⟨fun z => ⟨fun z2 => ?_, fun z2 => k59 (hO1 z2)⟩, fun z => k59 ?_⟩
        · apply h63
          simp only [B_X7_chosen_63, o_ic, cats_nil, cats_cons, rf_s, rf_n, isR_r, isR_n, isR_rf, cat_i, cat_l, cat_r, cat_n, cat_rf, unl_i, unl_l, unl_r, unl_n, unl_j, unl_rf, orf_r, orf_n, orf_rf, rf_null, mA_pm, mL_pm, mP_pm, List.length_cons, List.length_nil, List.cons_append, List.nil_append, Nat.reduceAdd, Nat.reduceLeDiff, Nat.reduceLT, Nat.reduceEqDiff, Nat.zero_add, Nat.add_zero, Nat.le_refl, Nat.zero_le, true_and, and_true, true_or, or_true, false_or, or_false, reduceIte]
          refine k64 0 (Or.inr ⟨rfl, ?_⟩)
          rcases hO with ⟨rfl, -⟩ | ⟨-, h⟩
          · exact absurd z (by decide)
          · exact nx h (fun _ => z2)
        · rcases hO with ⟨-, j, j1, j2⟩ | ⟨h, -⟩
          · exact Or.inl ⟨rfl, j, by omega, j2⟩
          · exact absurd h z
      · refine k181 _ _ _ _ _ _ (nx hd (fun h => q h.1.1)) ?_ (ChS_skip hS (fun h => q h.1)) (ChB_skip hB (fun h => q h.1))
        rcases hO with ⟨h, j, j1, j2⟩ | ⟨h, h2⟩
        · exact Or.inl ⟨h, j, by omega, j2⟩
        · exact Or.inr ⟨h, nx h2 (fun z => absurd z q)⟩
  apply h0
  simp only [B_X7_chosen_0, o_ic, o_is, lset_2, lset_3, lset_4, lset_5, lset_6, cats_nil, cats_cons, rf_s, rf_n, isR_r, isR_n, isR_rf, cat_i, cat_l, cat_r, cat_n, cat_rf, unl_i, unl_l, unl_r, unl_n, unl_j, unl_rf, orf_r, orf_n, orf_rf, rf_null, mA_pm, mL_pm, mP_pm, List.length_cons, List.length_nil, List.cons_append, List.nil_append, Nat.reduceAdd, Nat.reduceLeDiff, Nat.reduceLT, Nat.reduceEqDiff, Nat.zero_add, Nat.add_zero, Nat.le_refl, Nat.zero_le, true_and, and_true, true_or, or_true, false_or, or_false, reduceIte]
  exact loop nA 0 0 (-1) (-1) 0 _ _ (by omega) (fun j hj => by omega) (Or.inr ⟨rfl, fun j hj => by omega⟩) (Or.inl ⟨rfl, fun j hj => by omega⟩) (Or.inl ⟨rfl, fun j hj => by omega⟩)
end ZM11
