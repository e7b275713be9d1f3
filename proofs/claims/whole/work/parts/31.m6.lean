/-! The model's ORDERS -/
theorem bit_t : ∀ u, u < 256 → ∀ i, i < 8 → ((nI u >>> (nI i &&& 31)) &&& 1 = 1 ↔ u.testBit i = true) := by decide +kernel
theorem bit_o : ∀ u, u < 256 → ∀ i, i < 8 → u.testBit i = false → nI u ||| ((1 : Int32) <<< (nI i &&& 31)) = nI (u + 2 ^ i) ∧ u + 2 ^ i < 256 := by decide +kernel
def gl (M : MD) (t : Nat) : Nat → List Nat
  | 0 => []
  | k + 1 => if (gl M t k).length < 8 ∧ M.1 26 k = nI t ∧ M.1 30 k = 0 then gl M t k ++ [k] else gl M t k
theorem gl_len (M : MD) (t : Nat) : ∀ k, (gl M t k).length ≤ 8
  | 0 => by simp [gl]
  | k + 1 => by
    have h := gl_len M t k
    unfold gl
    split
    · rename_i q
      simp
      omega
    · exact h
theorem gl_mem (M : MD) (t : Nat) : ∀ k, ∀ a ∈ gl M t k, a < k ∧ M.1 26 a = nI t ∧ M.1 30 a = 0
  | 0, a, h => by simp [gl] at h
  | k + 1, a, h => by
    unfold gl at h
    split at h
    · rename_i q
      rcases List.mem_append.mp h with h | h
      · obtain ⟨h1, h2⟩ := gl_mem M t k a h
        exact ⟨by omega, h2⟩
      · rw [List.mem_singleton.mp h]
        exact ⟨by omega, q.2⟩
    · obtain ⟨h1, h2⟩ := gl_mem M t k a h
      exact ⟨by omega, h2⟩
theorem gl_full {M : MD} {t : Nat} : ∀ {m k : Nat}, ¬ (gl M t k).length < 8 → gl M t (k + m) = gl M t k
  | 0, _, _ => rfl
  | m + 1, k, h => by
    have h1 := gl_full (m := m) h
    show (if (gl M t (k + m)).length < 8 ∧ M.1 26 (k + m) = nI t ∧ M.1 30 (k + m) = 0 then gl M t (k + m) ++ [k + m] else gl M t (k + m)) = _
    rw [if_neg (fun q => h (by rw [← h1]; exact q.1)), h1]
theorem gl_cong {M M' : MD} {t : Nat} : ∀ {k : Nat}, (∀ i, i < k → M'.1 26 i = M.1 26 i ∧ M'.1 30 i = M.1 30 i) → gl M' t k = gl M t k
  | 0, _ => rfl
  | k + 1, h => by
    unfold gl
    rw [gl_cong (fun i hi => h i (by omega)), (h k (by omega)).1, (h k (by omega)).2]
section ZM6
variable {l : Launch} {D : DD} {d : Nat} {c : HP} {M : MD} {Q : List Value → HP → Prop}
theorem sp_gathers (hs : SKM c) {nA : Nat} (hA : M.1 7 8 = nI nA) (hA2 : nA ≤ 150) {t : Nat} (ht : t < 12) (H : ∀ M', SC M M' → M'.1 7 22 = nI (gl M t nA).length → (∀ i, i < (gl M t nA).length → M'.1 32 i = nI ((gl M t nA).getD i 0)) → Q [] (pm c M')) : K_X7_gathers l D (d + 1) [.ref (ob 7 0), .int (nI t)] (pm c M) Q := by
  refine m_X7_gathers (lsA := [.ref (ob 7 0), .int (nI t), jk]) rfl (Nat.le_of_ble_eq_true rfl) ?_
  intro X h0 h7 h46 h66 h72
  have loop : ∀ m k M', k + m = nA → SC M M' → M'.1 7 22 = nI (gl M t k).length → (∀ i, i < (gl M t k).length → M'.1 32 i = nI ((gl M t k).getD i 0)) → X 7 [.ref (ob 7 0), .int (nI t), .int (nI k)] [] (pm c M') 0 0 := by
    intro m
    induction m with
    | zero =>
      intro k M' hk hS h1 h2
      have e : k = nA := by omega
      subst e
      apply h7
      simp only [B_X7_gathers_7, o_il, o_al, o_gf, o_ic2, o_ic, o_iald, o_if, nth_2, nth_0, nth_1, mV_7_8, al_7, hs.a7, rm_7, ix_7, mV_7_22, mV_7_13, hs.p13, kd_26, ix_26, hs.l26, rm_26, wm_26, mV_7_17, hs.p17, kd_30, ix_30, hs.l30, rm_30, wm_30, cats_nil, cats_cons, rf_s, rf_n, isR_r, isR_n, isR_rf, cat_i, cat_l, cat_r, cat_n, cat_rf, unl_i, unl_l, unl_r, unl_n, unl_j, unl_rf, orf_r, orf_n, orf_rf, rf_null, mA_pm, mL_pm, mP_pm, List.length_cons, List.length_nil, List.cons_append, List.nil_append, Nat.reduceAdd, Nat.reduceLeDiff, Nat.reduceLT, Nat.reduceEqDiff, Nat.zero_add, Nat.add_zero, Nat.le_refl, Nat.zero_le, true_and, and_true, true_or, or_true, false_or, or_false, reduceIte, hS.s8, hA]
      refine ⟨fun _ => ?_, fun q => absurd (nI_le (by omega) (by omega)) q⟩
      apply h72
      simp only [B_X7_gathers_72, o_vret, cats_nil, cats_cons, rf_s, rf_n, isR_r, isR_n, isR_rf, cat_i, cat_l, cat_r, cat_n, cat_rf, unl_i, unl_l, unl_r, unl_n, unl_j, unl_rf, orf_r, orf_n, orf_rf, rf_null, mA_pm, mL_pm, mP_pm, List.length_cons, List.length_nil, List.cons_append, List.nil_append, Nat.reduceAdd, Nat.reduceLeDiff, Nat.reduceLT, Nat.reduceEqDiff, Nat.zero_add, Nat.add_zero, Nat.le_refl, Nat.zero_le, true_and, and_true, true_or, or_true, false_or, or_false, reduceIte]
      exact H M' hS h1 h2
    | succ m ih =>
      intro k M' hk hS h1 h2
      have hk2 : k < 150 := by omega
      have hgl := gl_len M t k
      have k66 : ∀ M'', SC M M'' → M''.1 7 22 = nI (gl M t (k + 1)).length → (∀ i, i < (gl M t (k + 1)).length → M''.1 32 i = nI ((gl M t (k + 1)).getD i 0)) → X 66 [.ref (ob 7 0), .int (nI t), .int (nI k)] [] (pm c M'') 0 0 := by
        intro M'' g1 g2 g3
        apply h66
        simp only [B_X7_gathers_66, o_inc, nth_2, lset_2, cats_nil, cats_cons, rf_s, rf_n, isR_r, isR_n, isR_rf, cat_i, cat_l, cat_r, cat_n, cat_rf, unl_i, unl_l, unl_r, unl_n, unl_j, unl_rf, orf_r, orf_n, orf_rf, rf_null, mA_pm, mL_pm, mP_pm, List.length_cons, List.length_nil, List.cons_append, List.nil_append, Nat.reduceAdd, Nat.reduceLeDiff, Nat.reduceLT, Nat.reduceEqDiff, Nat.zero_add, Nat.add_zero, Nat.le_refl, Nat.zero_le, true_and, and_true, true_or, or_true, false_or, or_false, reduceIte, nI_1]
        exact ih (k + 1) M'' (by omega) g1 g2 g3
      have skip : ¬ ((gl M t k).length < 8 ∧ M.1 26 k = nI t ∧ M.1 30 k = 0) → X 66 [.ref (ob 7 0), .int (nI t), .int (nI k)] [] (pm c M') 0 0 := by
        intro q
        have e : gl M t (k + 1) = gl M t k := by
          show (if _ then _ else _) = _
          rw [if_neg q]
        exact k66 M' hS (by rw [e]; exact h1) (by rw [e]; exact h2)
      apply h7
      simp only [B_X7_gathers_7, o_il, o_al, o_gf, o_ic2, o_ic, o_iald, o_if, nth_2, nth_0, nth_1, mV_7_8, al_7, hs.a7, rm_7, ix_7, mV_7_22, mV_7_13, hs.p13, kd_26, ix_26, hs.l26, rm_26, wm_26, mV_7_17, hs.p17, kd_30, ix_30, hs.l30, rm_30, wm_30, cats_nil, cats_cons, rf_s, rf_n, isR_r, isR_n, isR_rf, cat_i, cat_l, cat_r, cat_n, cat_rf, unl_i, unl_l, unl_r, unl_n, unl_j, unl_rf, orf_r, orf_n, orf_rf, rf_null, mA_pm, mL_pm, mP_pm, List.length_cons, List.length_nil, List.cons_append, List.nil_append, Nat.reduceAdd, Nat.reduceLeDiff, Nat.reduceLT, Nat.reduceEqDiff, Nat.zero_add, Nat.add_zero, Nat.le_refl, Nat.zero_le, true_and, and_true, true_or, or_true, false_or, or_false, reduceIte, hS.s8, hA, h1, vin hk2, ncl hk2, hS.r26, hS.r30]
      refine ⟨fun q => absurd q (by rw [nI_le_iff]; omega), fun _ => ⟨fun q => ?_, fun q => ⟨fun q2 => ⟨fun q3 => ?_, fun q3 => skip (fun z => q3 z.2.2)⟩, fun q2 => skip (fun z => q2 z.2.1)⟩⟩⟩
      · rw [show (8 : Int32) = nI 8 from rfl, nI_le_iff] at q
        have e : gl M t nA = gl M t k := by rw [← hk]; exact gl_full (by omega)
        apply h72
        simp only [B_X7_gathers_72, o_vret, cats_nil, cats_cons, rf_s, rf_n, isR_r, isR_n, isR_rf, cat_i, cat_l, cat_r, cat_n, cat_rf, unl_i, unl_l, unl_r, unl_n, unl_j, unl_rf, orf_r, orf_n, orf_rf, rf_null, mA_pm, mL_pm, mP_pm, List.length_cons, List.length_nil, List.cons_append, List.nil_append, Nat.reduceAdd, Nat.reduceLeDiff, Nat.reduceLT, Nat.reduceEqDiff, Nat.zero_add, Nat.add_zero, Nat.le_refl, Nat.zero_le, true_and, and_true, true_or, or_true, false_or, or_false, reduceIte]
        exact H M' hS (by rw [e]; exact h1) (by rw [e]; exact h2)
      · rw [show (8 : Int32) = nI 8 from rfl, nI_le_iff] at q
        have hl8 : (gl M t k).length < 8 := by omega
        have e : gl M t (k + 1) = gl M t k ++ [k] := by
          show (if _ then _ else _) = _
          rw [if_pos ⟨hl8, q2, q3⟩]
        apply h46
        simp only [B_X7_gathers_46, o_al, o_gf, o_il, o_iast, o_dup, o_ic, o_ii, o_pI, nth_0, nth_2, mV_7_21, al_7, hs.a7, hs.p21, kd_32, ix_32, hs.l32, rm_32, wm_32, ix_7, mV_7_22, rm_7, wm_7, wmJ_7, cats_nil, cats_cons, rf_s, rf_n, isR_r, isR_n, isR_rf, cat_i, cat_l, cat_r, cat_n, cat_rf, unl_i, unl_l, unl_r, unl_n, unl_j, unl_rf, orf_r, orf_n, orf_rf, rf_null, mA_pm, mL_pm, mP_pm, List.length_cons, List.length_nil, List.cons_append, List.nil_append, Nat.reduceAdd, Nat.reduceLeDiff, Nat.reduceLT, Nat.reduceEqDiff, Nat.zero_add, Nat.add_zero, Nat.le_refl, Nat.zero_le, true_and, and_true, true_or, or_true, false_or, or_false, reduceIte, h1, vin hl8, ncl hl8, nI_1, uI_1, Nat.reduceEqDiff, false_and]
        refine k66 _ ((hS.w _ rfl).w _ rfl) ?_ ?_
        · rw [uI_1, if_pos ⟨rfl, rfl⟩, e, List.length_append]; rfl
        · intro i hi
          rw [e, List.length_append] at hi
          rw [uI_1, if_neg (by omega), uI_1, e, List.getD_eq_getElem?_getD]
          by_cases hil : i = (gl M t k).length
          · rw [if_pos ⟨rfl, hil⟩, hil]
            simp
          · have hil2 : i < (gl M t k).length := by
              simp at hi
              omega
            rw [if_neg (fun z => hil z.2), List.getElem?_append_left hil2, ← List.getD_eq_getElem?_getD]
            exact h2 i hil2
  apply h0
  simp only [B_X7_gathers_0, o_al, o_ic, o_pI, o_is, nth_0, lset_2, al_7, ix_7, hs.a7, wm_7, wmJ_7, cats_nil, cats_cons, rf_s, rf_n, isR_r, isR_n, isR_rf, cat_i, cat_l, cat_r, cat_n, cat_rf, unl_i, unl_l, unl_r, unl_n, unl_j, unl_rf, orf_r, orf_n, orf_rf, rf_null, mA_pm, mL_pm, mP_pm, List.length_cons, List.length_nil, List.cons_append, List.nil_append, Nat.reduceAdd, Nat.reduceLeDiff, Nat.reduceLT, Nat.reduceEqDiff, Nat.zero_add, Nat.add_zero, Nat.le_refl, Nat.zero_le, true_and, and_true, true_or, or_true, false_or, or_false, reduceIte]
  exact loop nA 0 _ (by omega) (((SC.rf M).w _ rfl)) (by simp [uI_1, gl]; rfl) (fun i hi => by simp [gl] at hi)
/-- what the model's bestCost and best hold -/
def AccR (n : Nat) (sn : Nat → Nat) (M : MD) (a : Option (Nat × List Nat)) : Prop := match a with
  | none => M.1 7 25 = -1
  | some x => M.1 7 25 = nI x.1 ∧ x.1 ≤ 1000000 ∧ ∀ j, j < n → M.1 34 j = nI (sn (x.2.getD j 0))
/-- the asks of an order: their numbers, from, to -/
def AskL (M : MD) (t n : Nat) (sn fr to : Nat → Nat) : Prop := n ≤ 8 ∧ ∀ i, i < n → sn i < 150 ∧ M.1 26 (sn i) = nI t ∧ fromF M (sn i) = nI (fr i) ∧ toF M (sn i) = nI (to i) ∧ fr i ≤ to i ∧ to i < 60
theorem fromF_sc {M M' : MD} (h : SC M M') (k : Nat) : fromF M' k = fromF M k := by unfold fromF; rw [h.r25, h.r27]
theorem toF_sc {M M' : MD} (h : SC M M') (k : Nat) : toF M' k = toF M k := by unfold toF; rw [h.r25, h.r26, h.r22, h.r28, h.r27]
theorem upS_keep {a : Option (Nat × List Nat)} {x : Nat × List Nat} {b : Nat} {p : List Nat} {y : Nat × List Nat} (ha : a = some x) (h : x.1 ≤ b) : upS a b p (some y) = a := by
  subst ha
  show (if b + y.1 < x.1 then some (sh b p y) else some x) = some x
  rw [if_neg (by omega)]
theorem upS_take {a : Option (Nat × List Nat)} {b : Nat} {p : List Nat} {y : Nat × List Nat} (h : ∀ x, a = some x → b + y.1 < x.1) : upS a b p (some y) = some (b + y.1, p ++ y.2) := by
  cases a with
  | none => rfl
  | some x =>
    show (if b + y.1 < x.1 then some (sh b p y) else some x) = _
    rw [if_pos (h x rfl)]
    rfl
set_option maxHeartbeats 2000000 in
theorem sp_tries (hs : SKM c) {t n : Nat} {sn fr to : Nat → Nat} (ht : t < 12) (hL : AskL M t n sn fr to) (wt : Bool) : ∀ (r : Nat) (p : List Nat) (u hh v cs sm : Nat) (acc : Option (Nat × List Nat)) (M' : MD) (Q : List Value → HP → Prop),
    p.length + r = n → lft u n = r → u < 256 → hh < 60 → v < 3 → cs ≤ p.length * 128 → sm ≤ p.length * 1024 → SC M M' → M'.1 7 22 = nI n → (∀ i, i < n → M'.1 32 i = nI (sn i)) → (∀ j, j < p.length → M'.1 33 j = nI (sn (p.getD j 0))) → AccR n sn M' acc →
    (∀ M'', SC M M'' → M''.1 7 22 = nI n → (∀ i, i < n → M''.1 32 i = nI (sn i)) → (∀ j, j < p.length → M''.1 33 j = M'.1 33 j) → AccR n sn M'' (upS acc (if wt = true then sm + r * cs else cs) p (some (VS n fr to wt r u hh v))) → Q [] (pm c M'')) →
    K_X7_tries l D (d + r + 3) [.ref (ob 7 0), .int (nI p.length), .int (nI u), .int (nI hh), .int (nI v - 1), .int (nI cs), .int (nI sm), .int (if wt = true then 1 else 0)] (pm c M') Q := by
  obtain ⟨hn8, hL⟩ := hL
  intro r
  induction r with
  | zero =>
    intro p u hh v cs sm acc M' Q hp hlf hu hhh hv hcs hsm hS h22 h32 h33 hA H
    refine m_X7_tries (lsA := [.ref (ob 7 0), .int (nI p.length), .int (nI u), .int (nI hh), .int (nI v - 1), .int (nI cs), .int (nI sm), .int (if wt = true then 1 else 0), jk, jk, jk, jk]) rfl (Nat.le_of_ble_eq_true rfl) ?_
    intro X h0 h10 h12 h32_ h49 h75 h76 h79 h101 h177 h183
    obtain ⟨T, hT⟩ : ∃ T, T = if wt = true then sm else cs := ⟨_, rfl⟩
    have hTb : T ≤ 100000 := by rw [hT]; split <;> omega
    have hbase : (if wt = true then sm + 0 * cs else cs) = T := by rw [hT]; split <;> omega
    rw [hbase] at H
    have k49 : ∀ m i M1, i + m = p.length → SC M M1 → M1.1 7 22 = nI n → (∀ i, i < n → M1.1 32 i = nI (sn i)) → (∀ j, j < p.length → M1.1 33 j = M'.1 33 j) → M1.1 7 25 = nI T → (∀ j, j < i → M1.1 34 j = nI (sn (p.getD j 0))) → (∀ x, acc = some x → T < x.1) →
        X 49 [.ref (ob 7 0), .int (nI p.length), .int (nI u), .int (nI hh), .int (nI v - 1), .int (nI cs), .int (nI sm), .int (if wt = true then 1 else 0), .int (nI T), .int (nI i), jk, jk] [] (pm c M1) 0 0 := by
      intro m
      induction m with
      | zero =>
        intro i M1 hi g0 g1 g2 g3 g4 g5 g6
        apply h49
        simp only [B_X7_tries_49, o_il, o_ic2, o_al, o_gf, o_iald, o_iast, o_inc, nth_9, nth_1, nth_0, lset_9, mV_7_24, al_7, hs.a7, hs.p24, kd_34, ix_34, hs.l34, rm_34, wm_34, ix_7, mV_7_23, hs.p23, kd_33, ix_33, hs.l33, rm_33, wm_33, cats_nil, cats_cons, rf_s, rf_n, isR_r, isR_n, isR_rf, cat_i, cat_l, cat_r, cat_n, cat_rf, unl_i, unl_l, unl_r, unl_n, unl_j, unl_rf, orf_r, orf_n, orf_rf, rf_null, mA_pm, mL_pm, mP_pm, List.length_cons, List.length_nil, List.cons_append, List.nil_append, Nat.reduceAdd, Nat.reduceLeDiff, Nat.reduceLT, Nat.reduceEqDiff, Nat.zero_add, Nat.add_zero, Nat.le_refl, Nat.zero_le, true_and, and_true, true_or, or_true, false_or, or_false, reduceIte]
        refine ⟨fun _ => ?_, fun q => absurd (nI_le (by omega) (by omega)) q⟩
        apply h75
        simp only [B_X7_tries_75, o_vret, cats_nil, cats_cons, rf_s, rf_n, isR_r, isR_n, isR_rf, cat_i, cat_l, cat_r, cat_n, cat_rf, unl_i, unl_l, unl_r, unl_n, unl_j, unl_rf, orf_r, orf_n, orf_rf, rf_null, mA_pm, mL_pm, mP_pm, List.length_cons, List.length_nil, List.cons_append, List.nil_append, Nat.reduceAdd, Nat.reduceLeDiff, Nat.reduceLT, Nat.reduceEqDiff, Nat.zero_add, Nat.add_zero, Nat.le_refl, Nat.zero_le, true_and, and_true, true_or, or_true, false_or, or_false, reduceIte]
        refine H M1 g0 g1 g2 g3 ?_
        rw [upS_take (fun x hx => by have := g6 x hx; simp [VS]; exact this)]
        show M1.1 7 25 = nI (T + 0) ∧ T + 0 ≤ 1000000 ∧ ∀ j, j < n → M1.1 34 j = nI (sn ((p ++ []).getD j 0))
        rw [List.append_nil]
        exact ⟨g4, by omega, fun j hj => g5 j (by omega)⟩
      | succ m ihm =>
        intro i M1 hi g0 g1 g2 g3 g4 g5 g6
        have hi8 : i < 8 := by omega
        apply h49
        simp only [B_X7_tries_49, o_il, o_ic2, o_al, o_gf, o_iald, o_iast, o_inc, nth_9, nth_1, nth_0, lset_9, mV_7_24, al_7, hs.a7, hs.p24, kd_34, ix_34, hs.l34, rm_34, wm_34, ix_7, mV_7_23, hs.p23, kd_33, ix_33, hs.l33, rm_33, wm_33, cats_nil, cats_cons, rf_s, rf_n, isR_r, isR_n, isR_rf, cat_i, cat_l, cat_r, cat_n, cat_rf, unl_i, unl_l, unl_r, unl_n, unl_j, unl_rf, orf_r, orf_n, orf_rf, rf_null, mA_pm, mL_pm, mP_pm, List.length_cons, List.length_nil, List.cons_append, List.nil_append, Nat.reduceAdd, Nat.reduceLeDiff, Nat.reduceLT, Nat.reduceEqDiff, Nat.zero_add, Nat.add_zero, Nat.le_refl, Nat.zero_le, true_and, and_true, true_or, or_true, false_or, or_false, reduceIte, vin hi8, ncl hi8, nI_1]
        refine ⟨fun q => absurd q (by rw [nI_le_iff]; omega), fun _ => ?_⟩
        refine ihm (i + 1) _ (by omega) (g0.w _ rfl) (by rw [uI_1]; exact g1) (fun j hj => by rw [uI_1, if_neg (by omega)]; exact g2 j hj) (fun j hj => by rw [uI_1, if_neg (by omega)]; exact g3 j hj) (by rw [uI_1]; exact g4) (fun j hj => ?_) g6
        rw [uI_1]
        by_cases hji : j = i
        · rw [if_pos ⟨rfl, hji⟩, hji, g3 i (by omega)]
          exact h33 i (by omega)
        · rw [if_neg (fun z => hji z.2)]
          exact g5 j (by omega)
    have k32 : (∀ x, acc = some x → T < x.1) → X 32 [.ref (ob 7 0), .int (nI p.length), .int (nI u), .int (nI hh), .int (nI v - 1), .int (nI cs), .int (nI sm), .int (if wt = true then 1 else 0), .int (nI T), jk, jk, jk] [] (pm c M') 0 0 := by
      intro g6
      apply h32_
      simp only [B_X7_tries_32, o_il, o_al, o_gf, o_ic2, o_pI, o_ic, o_is, nth_1, nth_0, nth_8, lset_9, mV_7_22, al_7, hs.a7, rm_7, ix_7, wm_7, wmJ_7, cats_nil, cats_cons, rf_s, rf_n, isR_r, isR_n, isR_rf, cat_i, cat_l, cat_r, cat_n, cat_rf, unl_i, unl_l, unl_r, unl_n, unl_j, unl_rf, orf_r, orf_n, orf_rf, rf_null, mA_pm, mL_pm, mP_pm, List.length_cons, List.length_nil, List.cons_append, List.nil_append, Nat.reduceAdd, Nat.reduceLeDiff, Nat.reduceLT, Nat.reduceEqDiff, Nat.zero_add, Nat.add_zero, Nat.le_refl, Nat.zero_le, true_and, and_true, true_or, or_true, false_or, or_false, reduceIte, h22]
      refine ⟨fun _ => ?_, fun q => absurd (show nI p.length = nI n by rw [show p.length = n by omega]) q⟩
      exact k49 p.length 0 _ (by omega) (hS.w _ rfl) (by rw [uI_1]; exact h22) (fun i hi => by rw [uI_1, if_neg (by omega)]; exact h32 i hi) (fun j hj => by rw [uI_1, if_neg (by omega)]) (by rw [uI_1, if_pos ⟨rfl, rfl⟩]) (fun j hj => by omega) g6
    have k12 : X 12 [.ref (ob 7 0), .int (nI p.length), .int (nI u), .int (nI hh), .int (nI v - 1), .int (nI cs), .int (nI sm), .int (if wt = true then 1 else 0), jk, jk, jk, jk] [.int (nI T)] (pm c M') 0 0 := by
      apply h12
      simp only [B_X7_tries_12, o_is, o_al, o_gf, o_ic, o_ic2, o_il, o_vret, lset_8, nth_0, nth_8, mV_7_25, al_7, hs.a7, rm_7, ix_7, cats_nil, cats_cons, rf_s, rf_n, isR_r, isR_n, isR_rf, cat_i, cat_l, cat_r, cat_n, cat_rf, unl_i, unl_l, unl_r, unl_n, unl_j, unl_rf, orf_r, orf_n, orf_rf, rf_null, mA_pm, mL_pm, mP_pm, List.length_cons, List.length_nil, List.cons_append, List.nil_append, Nat.reduceAdd, Nat.reduceLeDiff, Nat.reduceLT, Nat.reduceEqDiff, Nat.zero_add, Nat.add_zero, Nat.le_refl, Nat.zero_le, true_and, and_true, true_or, or_true, false_or, or_false, reduceIte]
      cases hacc : acc with
      | none =>
        rw [hacc] at hA
        refine ⟨fun _ => k32 (fun x hx => by rw [hacc] at hx; cases hx), fun q => absurd hA q⟩
      | some x =>
        rw [hacc] at hA
        obtain ⟨a1, a2, a3⟩ := hA
        rw [a1]
        refine ⟨fun q => absurd q (by rw [show (-1 : Int32) = nI 4294967295 from rfl]; intro z; have := congrArg Int32.toInt z; rw [nI_toI (by omega)] at this; revert this; rw [show (nI 4294967295).toInt = -1 from rfl]; omega), fun _ => ⟨fun q => k32 (fun y hy => ?_), fun q => ?_⟩⟩
        · rw [hacc] at hy
          cases hy
          rw [nI_lt_iff] at q
          exact q
        · rw [nI_lt_iff] at q
          refine H M' hS h22 h32 (fun _ _ => rfl) ?_
          rw [upS_keep hacc (by omega), hacc]
          exact ⟨a1, a2, a3⟩
    apply h0
    simp only [B_X7_tries_0, o_il, o_if, nth_7, nth_6, cats_nil, cats_cons, rf_s, rf_n, isR_r, isR_n, isR_rf, cat_i, cat_l, cat_r, cat_n, cat_rf, unl_i, unl_l, unl_r, unl_n, unl_j, unl_rf, orf_r, orf_n, orf_rf, rf_null, mA_pm, mL_pm, mP_pm, List.length_cons, List.length_nil, List.cons_append, List.nil_append, Nat.reduceAdd, Nat.reduceLeDiff, Nat.reduceLT, Nat.reduceEqDiff, Nat.zero_add, Nat.add_zero, Nat.le_refl, Nat.zero_le, true_and, and_true, true_or, or_true, false_or, or_false, reduceIte]
    cases wt with
    | true =>
      refine ⟨fun q => absurd q (by decide), fun _ => ?_⟩
      rw [hT] at k12
      exact k12
    | false =>
      refine ⟨fun _ => ?_, fun q => absurd rfl q⟩
      apply h10
      simp only [B_X7_tries_10, o_il, nth_5, cats_nil, cats_cons, rf_s, rf_n, isR_r, isR_n, isR_rf, cat_i, cat_l, cat_r, cat_n, cat_rf, unl_i, unl_l, unl_r, unl_n, unl_j, unl_rf, orf_r, orf_n, orf_rf, rf_null, mA_pm, mL_pm, mP_pm, List.length_cons, List.length_nil, List.cons_append, List.nil_append, Nat.reduceAdd, Nat.reduceLeDiff, Nat.reduceLT, Nat.reduceEqDiff, Nat.zero_add, Nat.add_zero, Nat.le_refl, Nat.zero_le, true_and, and_true, true_or, or_true, false_or, or_false, reduceIte]
      rw [hT] at k12
      exact k12
  | succ r ih =>
    intro p u hh v cs sm acc M' Q hp hlf hu hhh hv hcs hsm hS h22 h32 h33 hA H
    refine m_X7_tries (lsA := [.ref (ob 7 0), .int (nI p.length), .int (nI u), .int (nI hh), .int (nI v - 1), .int (nI cs), .int (nI sm), .int (if wt = true then 1 else 0), jk, jk, jk, jk]) rfl (Nat.le_of_ble_eq_true rfl) ?_
    intro X h0 h10 h12 h32_ h49 h75 h76 h79 h101 h177 h183
    obtain ⟨T, hT⟩ : ∃ T, T = if wt = true then sm else cs := ⟨_, rfl⟩
    have hTb : T ≤ 100000 := by rw [hT]; split <;> omega
    obtain ⟨B, hB⟩ : ∃ B, B = if wt = true then sm + (r + 1) * cs else cs := ⟨_, rfl⟩
    have hTB : T ≤ B := by rw [hT, hB]; split <;> omega
    rw [← hB] at H
    have hp8 : p.length < 8 := by omega
    obtain ⟨xV, hxV⟩ := fm_some (fr := fr) (to := to) (wt := wt) (h := hh) (v := v) hlf
    have hVS : VS n fr to wt (r + 1) u hh v = xV := by rw [VS_s, hxV]; rfl
    have k79 : ∀ m i M1, i + m = n → SC M M1 → M1.1 7 22 = nI n → (∀ i, i < n → M1.1 32 i = nI (sn i)) → (∀ j, j < p.length → M1.1 33 j = M'.1 33 j) → AccR n sn M1 (upS acc B p (fm (cnd n fr to wt r u hh v) i)) → ∀ w1 w2,
        X 79 [.ref (ob 7 0), .int (nI p.length), .int (nI u), .int (nI hh), .int (nI v - 1), .int (nI cs), .int (nI sm), .int (if wt = true then 1 else 0), .int (nI T), .int (nI i), w1, w2] [] (pm c M1) 0 0 := by
      intro m
      induction m with
      | zero =>
        intro i M1 hi g0 g1 g2 g3 g4 w1 w2
        apply h79
        simp only [B_X7_tries_79, o_il, o_al, o_gf, o_ic2, o_ii, o_ic, nth_9, nth_0, nth_2, mV_7_22, al_7, hs.a7, rm_7, ix_7, cats_nil, cats_cons, rf_s, rf_n, isR_r, isR_n, isR_rf, cat_i, cat_l, cat_r, cat_n, cat_rf, unl_i, unl_l, unl_r, unl_n, unl_j, unl_rf, orf_r, orf_n, orf_rf, rf_null, mA_pm, mL_pm, mP_pm, List.length_cons, List.length_nil, List.cons_append, List.nil_append, Nat.reduceAdd, Nat.reduceLeDiff, Nat.reduceLT, Nat.reduceEqDiff, Nat.zero_add, Nat.add_zero, Nat.le_refl, Nat.zero_le, true_and, and_true, true_or, or_true, false_or, or_false, reduceIte, g1]
        refine ⟨fun _ => ?_, fun q => absurd (nI_le (by omega) (by omega)) q⟩
        apply h183
        simp only [B_X7_tries_183, o_vret, cats_nil, cats_cons, rf_s, rf_n, isR_r, isR_n, isR_rf, cat_i, cat_l, cat_r, cat_n, cat_rf, unl_i, unl_l, unl_r, unl_n, unl_j, unl_rf, orf_r, orf_n, orf_rf, rf_null, mA_pm, mL_pm, mP_pm, List.length_cons, List.length_nil, List.cons_append, List.nil_append, Nat.reduceAdd, Nat.reduceLeDiff, Nat.reduceLT, Nat.reduceEqDiff, Nat.zero_add, Nat.add_zero, Nat.le_refl, Nat.zero_le, true_and, and_true, true_or, or_true, false_or, or_false, reduceIte]
        refine H M1 g0 g1 g2 g3 ?_
        rw [hVS]
        rw [show i = n by omega, hxV] at g4
        exact g4
      | succ m ihm =>
        intro i M1 hi g0 g1 g2 g3 g4 w1 w2
        have hin : i < n := by omega
        have hi8 : i < 8 := by omega
        obtain ⟨l1, l2, l3, l4, l5, l6⟩ := hL i hin
        have k177 : ∀ M2 w1 w2, SC M M2 → M2.1 7 22 = nI n → (∀ i, i < n → M2.1 32 i = nI (sn i)) → (∀ j, j < p.length → M2.1 33 j = M'.1 33 j) → AccR n sn M2 (upS acc B p (fm (cnd n fr to wt r u hh v) (i + 1))) → X 177 [.ref (ob 7 0), .int (nI p.length), .int (nI u), .int (nI hh), .int (nI v - 1), .int (nI cs), .int (nI sm), .int (if wt = true then 1 else 0), .int (nI T), .int (nI i), w1, w2] [] (pm c M2) 0 0 := by
          intro M2 w1 w2 f0 f1 f2 f3 f4
          apply h177
          simp only [B_X7_tries_177, o_inc, nth_9, lset_9, cats_nil, cats_cons, rf_s, rf_n, isR_r, isR_n, isR_rf, cat_i, cat_l, cat_r, cat_n, cat_rf, unl_i, unl_l, unl_r, unl_n, unl_j, unl_rf, orf_r, orf_n, orf_rf, rf_null, mA_pm, mL_pm, mP_pm, List.length_cons, List.length_nil, List.cons_append, List.nil_append, Nat.reduceAdd, Nat.reduceLeDiff, Nat.reduceLT, Nat.reduceEqDiff, Nat.zero_add, Nat.add_zero, Nat.le_refl, Nat.zero_le, true_and, and_true, true_or, or_true, false_or, or_false, reduceIte, nI_1]
          exact ihm (i + 1) M2 (by omega) f0 f1 f2 f3 f4 w1 w2
        apply h79
        simp only [B_X7_tries_79, o_il, o_al, o_gf, o_ic2, o_ii, o_ic, nth_9, nth_0, nth_2, mV_7_22, al_7, hs.a7, rm_7, ix_7, cats_nil, cats_cons, rf_s, rf_n, isR_r, isR_n, isR_rf, cat_i, cat_l, cat_r, cat_n, cat_rf, unl_i, unl_l, unl_r, unl_n, unl_j, unl_rf, orf_r, orf_n, orf_rf, rf_null, mA_pm, mL_pm, mP_pm, List.length_cons, List.length_nil, List.cons_append, List.nil_append, Nat.reduceAdd, Nat.reduceLeDiff, Nat.reduceLT, Nat.reduceEqDiff, Nat.zero_add, Nat.add_zero, Nat.le_refl, Nat.zero_le, true_and, and_true, true_or, or_true, false_or, or_false, reduceIte, g1]
        refine ⟨fun q => absurd q (by rw [nI_le_iff]; omega), fun _ => ⟨fun q => ?_, fun q => ?_⟩⟩
        · refine k177 M1 w1 w2 g0 g1 g2 g3 ?_
          have e : cnd n fr to wt r u hh v i = none := if_pos ((bit_t u hu i hi8).mp q)
          show AccR n sn M1 (upS acc B p (fmO (fm (cnd n fr to wt r u hh v) i) (cnd n fr to wt r u hh v i)))
          rw [e]
          exact g4
        · have hb : u.testBit i = false := by
            cases hq : u.testBit i with
            | false => rfl
            | true => exact absurd ((bit_t u hu i hi8).mpr hq) q
          obtain ⟨o1, o2⟩ := bit_o u hu i hi8 hb
          have e : cnd n fr to wt r u hh v i = some ((if wt = true then r + 1 else 1) * cN (fr i) (to i) hh v + (VS n fr to wt r (u + 2 ^ i) (to i) (wyN (fr i) (to i) hh v)).1, i :: (VS n fr to wt r (u + 2 ^ i) (to i) (wyN (fr i) (to i) hh v)).2) := if_neg (by rw [hb]; decide)
          have c1 : costF (fromF M1 (sn i)) (toF M1 (sn i)) (nI hh) (nI v - 1) = nI (cN (fr i) (to i) hh v) := by rw [fromF_sc g0, toF_sc g0, l3, l4]; exact costF_N l5 l6 hhh hv
          have c2 : wayF (fromF M1 (sn i)) (toF M1 (sn i)) (nI hh) (nI v - 1) = nI (wyN (fr i) (to i) hh v) - 1 := by rw [fromF_sc g0, toF_sc g0, l3, l4]; exact wayF_N (by omega) l6 hhh hv
          have c3 := cN_lt (f := fr i) (g := to i) (h := hh) (v := v) (by omega) l6 hhh
          apply h101
          simp only [B_X7_tries_101, o_al, o_gf, o_il, o_iald, o_is, o_iast, o_ic, o_ii, nth_0, nth_9, nth_3, nth_4, lset_10, lset_11, nth_1, nth_2, nth_11, nth_5, nth_10, nth_6, nth_7, opV_3, opV_1, opV_7, mV_7_21, al_7, hs.a7, hs.p21, kd_32, ix_32, hs.l32, rm_32, wm_32, ix_7, mV_7_20, rm_7, mV_7_23, hs.p23, kd_33, ix_33, hs.l33, rm_33, wm_33, cats_nil, cats_cons, rf_s, rf_n, isR_r, isR_n, isR_rf, cat_i, cat_l, cat_r, cat_n, cat_rf, unl_i, unl_l, unl_r, unl_n, unl_j, unl_rf, orf_r, orf_n, orf_rf, rf_null, mA_pm, mL_pm, mP_pm, List.length_cons, List.length_nil, List.cons_append, List.nil_append, Nat.reduceAdd, Nat.reduceLeDiff, Nat.reduceLT, Nat.reduceEqDiff, Nat.zero_add, Nat.add_zero, Nat.le_refl, Nat.zero_le, true_and, and_true, true_or, or_true, false_or, or_false, reduceIte, g2 i hin, vin hi8, ncl hi8]
          refine sp_costOf hs l1 ht (by rw [g0.r26]; exact l2) _ _ ?_
          rw [c1, c2]
          simp only [o_al, o_gf, o_il, o_iald, o_is, o_iast, o_ic, o_ii, nth_0, nth_9, nth_3, nth_4, lset_10, lset_11, nth_1, nth_2, nth_11, nth_5, nth_10, nth_6, nth_7, opV_3, opV_1, opV_7, mV_7_21, al_7, hs.a7, hs.p21, kd_32, ix_32, hs.l32, rm_32, wm_32, ix_7, mV_7_20, rm_7, mV_7_23, hs.p23, kd_33, ix_33, hs.l33, rm_33, wm_33, cats_nil, cats_cons, rf_s, rf_n, isR_r, isR_n, isR_rf, cat_i, cat_l, cat_r, cat_n, cat_rf, unl_i, unl_l, unl_r, unl_n, unl_j, unl_rf, orf_r, orf_n, orf_rf, rf_null, mA_pm, mL_pm, mP_pm, List.length_cons, List.length_nil, List.cons_append, List.nil_append, Nat.reduceAdd, Nat.reduceLeDiff, Nat.reduceLT, Nat.reduceEqDiff, Nat.zero_add, Nat.add_zero, Nat.le_refl, Nat.zero_le, true_and, and_true, true_or, or_true, false_or, or_false, reduceIte, uI_1, Nat.reduceEqDiff, and_false, false_and, g2 i hin, vin hi8, ncl hi8, vin hp8, ncl hp8, o1, nI_1, nI_add]
          refine sp_toOf hs l1 ht (by rw [uI_1, if_neg (by omega), uI_1, if_neg (by omega), g0.r26]; exact l2) ?_
          have c4 : toF (uI (uI M1 7 20 (nI (wyN (fr i) (to i) hh v) - 1)) 33 p.length (nI (sn i))) (sn i) = nI (to i) := by
            rw [toF_sc ((g0.w _ rfl).w _ rfl)]
            exact l4
          rw [c4]
          simp only [o_al, o_gf, o_il, o_iald, o_is, o_iast, o_ic, o_ii, nth_0, nth_9, nth_3, nth_4, lset_10, lset_11, nth_1, nth_2, nth_11, nth_5, nth_10, nth_6, nth_7, opV_3, opV_1, opV_7, mV_7_21, al_7, hs.a7, hs.p21, kd_32, ix_32, hs.l32, rm_32, wm_32, ix_7, mV_7_20, rm_7, mV_7_23, hs.p23, kd_33, ix_33, hs.l33, rm_33, wm_33, cats_nil, cats_cons, rf_s, rf_n, isR_r, isR_n, isR_rf, cat_i, cat_l, cat_r, cat_n, cat_rf, unl_i, unl_l, unl_r, unl_n, unl_j, unl_rf, orf_r, orf_n, orf_rf, rf_null, mA_pm, mL_pm, mP_pm, List.length_cons, List.length_nil, List.cons_append, List.nil_append, Nat.reduceAdd, Nat.reduceLeDiff, Nat.reduceLT, Nat.reduceEqDiff, Nat.zero_add, Nat.add_zero, Nat.le_refl, Nat.zero_le, true_and, and_true, true_or, or_true, false_or, or_false, reduceIte, nI_add]
          have hs3 := lft_s hb (n := n)
          rw [if_pos hin] at hs3
          have hpl : (p ++ [i]).length = p.length + 1 := by simp
          have := ih (p ++ [i]) (u + 2 ^ i) (to i) (wyN (fr i) (to i) hh v) (cs + cN (fr i) (to i) hh v) (sm + cs + cN (fr i) (to i) hh v) (upS acc B p (fm (cnd n fr to wt r u hh v) i)) (uI (uI M1 7 20 (nI (wyN (fr i) (to i) hh v) - 1)) 33 p.length (nI (sn i)))
            (fun r h' => X 177 [.ref (ob 7 0), .int (nI p.length), .int (nI u), .int (nI hh), .int (nI v - 1), .int (nI cs), .int (nI sm), .int (if wt = true then 1 else 0), .int (nI T), .int (nI i), .int (nI (cN (fr i) (to i) hh v)), .int (nI (wyN (fr i) (to i) hh v) - 1)] (r ++ []) h' 0 0)
            (by rw [hpl]; omega) (by omega) o2 l6 (wyN_lt hv) (by rw [hpl]; omega) (by rw [hpl]; omega) ((g0.w _ rfl).w _ rfl) (by rw [uI_1, if_neg (by omega), uI_1, if_neg (by omega)]; exact g1) (fun j hj => by rw [uI_1, if_neg (by omega), uI_1, if_neg (by omega)]; exact g2 j hj)
            (fun j hj => ?_) ?_ ?_
          · rw [hpl] at this
            exact this
          · rw [uI_1]
            by_cases hjp : j = p.length
            · rw [if_pos ⟨rfl, hjp⟩, hjp]
              simp
            · rw [hpl] at hj
              rw [if_neg (fun z => hjp z.2), uI_1, if_neg (by omega), g3 j (by omega), h33 j (by omega), List.getD_eq_getElem?_getD, List.getD_eq_getElem?_getD, List.getElem?_append_left (by omega)]
          · cases hq : upS acc B p (fm (cnd n fr to wt r u hh v) i) with
            | none =>
              rw [hq] at g4
              show (uI _ 33 _ _).1 7 25 = -1
              rw [uI_1, if_neg (by omega), uI_1, if_neg (by omega)]
              exact g4
            | some x =>
              rw [hq] at g4
              obtain ⟨a1, a2, a3⟩ := g4
              refine ⟨by rw [uI_1, if_neg (by omega), uI_1, if_neg (by omega)]; exact a1, a2, fun j hj => ?_⟩
              rw [uI_1, if_neg (by omega), uI_1, if_neg (by omega)]
              exact a3 j hj
          · intro M2 f0 f1 f2 f3 f4
            refine k177 M2 _ _ f0 f1 f2 (fun j hj => ?_) ?_
            · rw [f3 j (by rw [hpl]; omega), uI_1, if_neg (by omega), uI_1, if_neg (by omega)]
              exact g3 j hj
            · show AccR n sn M2 (upS acc B p (fmO (fm (cnd n fr to wt r u hh v) i) (cnd n fr to wt r u hh v i)))
              rw [upS_fmO, e]
              have hsh : ∀ y : Nat × List Nat, sh (if wt = true then sm + cs + cN (fr i) (to i) hh v + r * (cs + cN (fr i) (to i) hh v) else cs + cN (fr i) (to i) hh v) (p ++ [i]) y = sh B p ((if wt = true then r + 1 else 1) * cN (fr i) (to i) hh v + y.1, i :: y.2) := by
                intro y
                unfold sh
                rw [List.append_assoc]
                congr 1
                rw [hB]
                cases wt with
                | true =>
                  simp only [if_true]
                  rw [Nat.mul_add, Nat.add_mul, Nat.add_mul]
                  omega
                | false =>
                  simp
                  omega
              show AccR n sn M2 (upO _ (sh B p _))
              rw [← hsh]
              exact f4
    have k32 : X 32 [.ref (ob 7 0), .int (nI p.length), .int (nI u), .int (nI hh), .int (nI v - 1), .int (nI cs), .int (nI sm), .int (if wt = true then 1 else 0), .int (nI T), jk, jk, jk] [] (pm c M') 0 0 := by
      apply h32_
      simp only [B_X7_tries_32, o_il, o_al, o_gf, o_ic2, o_pI, o_ic, o_is, nth_1, nth_0, nth_8, lset_9, mV_7_22, al_7, hs.a7, rm_7, ix_7, wm_7, wmJ_7, cats_nil, cats_cons, rf_s, rf_n, isR_r, isR_n, isR_rf, cat_i, cat_l, cat_r, cat_n, cat_rf, unl_i, unl_l, unl_r, unl_n, unl_j, unl_rf, orf_r, orf_n, orf_rf, rf_null, mA_pm, mL_pm, mP_pm, List.length_cons, List.length_nil, List.cons_append, List.nil_append, Nat.reduceAdd, Nat.reduceLeDiff, Nat.reduceLT, Nat.reduceEqDiff, Nat.zero_add, Nat.add_zero, Nat.le_refl, Nat.zero_le, true_and, and_true, true_or, or_true, false_or, or_false, reduceIte, h22]
      refine ⟨fun q => absurd q (by rw [nI_eq_iff]; omega), fun _ => ?_⟩
      apply h76
      simp only [B_X7_tries_76, o_ic, o_is, lset_9, cats_nil, cats_cons, rf_s, rf_n, isR_r, isR_n, isR_rf, cat_i, cat_l, cat_r, cat_n, cat_rf, unl_i, unl_l, unl_r, unl_n, unl_j, unl_rf, orf_r, orf_n, orf_rf, rf_null, mA_pm, mL_pm, mP_pm, List.length_cons, List.length_nil, List.cons_append, List.nil_append, Nat.reduceAdd, Nat.reduceLeDiff, Nat.reduceLT, Nat.reduceEqDiff, Nat.zero_add, Nat.add_zero, Nat.le_refl, Nat.zero_le, true_and, and_true, true_or, or_true, false_or, or_false, reduceIte]
      exact k79 n 0 M' (by omega) hS h22 h32 (fun _ _ => rfl) hA _ _
    have k12 : X 12 [.ref (ob 7 0), .int (nI p.length), .int (nI u), .int (nI hh), .int (nI v - 1), .int (nI cs), .int (nI sm), .int (if wt = true then 1 else 0), jk, jk, jk, jk] [.int (nI T)] (pm c M') 0 0 := by
      apply h12
      simp only [B_X7_tries_12, o_is, o_al, o_gf, o_ic, o_ic2, o_il, o_vret, lset_8, nth_0, nth_8, mV_7_25, al_7, hs.a7, rm_7, ix_7, cats_nil, cats_cons, rf_s, rf_n, isR_r, isR_n, isR_rf, cat_i, cat_l, cat_r, cat_n, cat_rf, unl_i, unl_l, unl_r, unl_n, unl_j, unl_rf, orf_r, orf_n, orf_rf, rf_null, mA_pm, mL_pm, mP_pm, List.length_cons, List.length_nil, List.cons_append, List.nil_append, Nat.reduceAdd, Nat.reduceLeDiff, Nat.reduceLT, Nat.reduceEqDiff, Nat.zero_add, Nat.add_zero, Nat.le_refl, Nat.zero_le, true_and, and_true, true_or, or_true, false_or, or_false, reduceIte]
      refine ⟨fun _ => k32, fun q => ⟨fun _ => k32, fun q2 => ?_⟩⟩
      cases hacc : acc with
      | none =>
        rw [hacc] at hA
        exact absurd hA q
      | some x =>
        have hA' := hA
        rw [hacc] at hA'
        obtain ⟨a1, a2, a3⟩ := hA'
        rw [a1, nI_lt_iff] at q2
        refine H M' hS h22 h32 (fun _ _ => rfl) ?_
        rw [upS_keep hacc (by omega)]
        exact hA
    apply h0
    simp only [B_X7_tries_0, o_il, o_if, nth_7, nth_6, cats_nil, cats_cons, rf_s, rf_n, isR_r, isR_n, isR_rf, cat_i, cat_l, cat_r, cat_n, cat_rf, unl_i, unl_l, unl_r, unl_n, unl_j, unl_rf, orf_r, orf_n, orf_rf, rf_null, mA_pm, mL_pm, mP_pm, List.length_cons, List.length_nil, List.cons_append, List.nil_append, Nat.reduceAdd, Nat.reduceLeDiff, Nat.reduceLT, Nat.reduceEqDiff, Nat.zero_add, Nat.add_zero, Nat.le_refl, Nat.zero_le, true_and, and_true, true_or, or_true, false_or, or_false, reduceIte]
    cases wt with
    | true =>
      refine ⟨fun q => absurd q (by decide), fun _ => ?_⟩
      rw [hT] at k12
      exact k12
    | false =>
      refine ⟨fun _ => ?_, fun q => absurd rfl q⟩
      apply h10
      simp only [B_X7_tries_10, o_il, nth_5, cats_nil, cats_cons, rf_s, rf_n, isR_r, isR_n, isR_rf, cat_i, cat_l, cat_r, cat_n, cat_rf, unl_i, unl_l, unl_r, unl_n, unl_j, unl_rf, orf_r, orf_n, orf_rf, rf_null, mA_pm, mL_pm, mP_pm, List.length_cons, List.length_nil, List.cons_append, List.nil_append, Nat.reduceAdd, Nat.reduceLeDiff, Nat.reduceLT, Nat.reduceEqDiff, Nat.zero_add, Nat.add_zero, Nat.le_refl, Nat.zero_le, true_and, and_true, true_or, or_true, false_or, or_false, reduceIte]
      rw [hT] at k12
      exact k12
end ZM6
