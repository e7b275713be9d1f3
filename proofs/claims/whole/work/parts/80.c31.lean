/-! The class beside the model: an ask ends in a reader -/
section ZC31
variable {c : HP} {M : MD} {nT nR nA : Nat}
theorem shM_38 {k x : Nat} : ∀ n, (shM M k n).1 38 x = if 8 * k ≤ x ∧ x < 8 * k + n then M.1 38 (x + 1) else M.1 38 x
  | 0 => by rw [if_neg (by omega)]; rfl
  | n + 1 => by
    show (uI (shM M k n) 38 (8 * k + n) ((shM M k n).1 38 (8 * k + n + 1))).1 38 x = _
    rw [uI_1]
    by_cases e : x = 8 * k + n
    · rw [if_pos ⟨rfl, e⟩, if_pos (by omega), shM_38 n, if_neg (by omega), e]
    · rw [if_neg (fun z => e z.2), shM_38 n]
      by_cases q : 8 * k ≤ x ∧ x < 8 * k + n
      · rw [if_pos q, if_pos (by omega)]
      · rw [if_neg q, if_neg (by omega)]
theorem endP_1 (k a t n b i : Nat) : (endP M k a t n).1 b i = if b = 39 ∧ i = k then nI n else if b = 40 ∧ i = k then 0 else (endA M k a t).1 b i := by
  unfold endP
  rw [uI_1, uI_1, endR_1]
theorem endM_1 {k a t n b : Nat} (hb : b ≠ 38) (i : Nat) : (endM M k a t n).1 b i = if n = 0 ∧ b = 36 ∧ i = k then 3 else (endP M k a t n).1 b i := by
  unfold endM
  by_cases z : n = 0
  · rw [if_pos z, uI_1, shM_ne _ _ hb]
    by_cases y : b = 36 ∧ i = k
    · rw [if_pos y, if_pos ⟨z, y⟩]
    · rw [if_neg y, if_neg (fun w => y w.2)]
  · rw [if_neg z, shM_ne _ _ hb, if_neg (fun w => z w.1)]
theorem endM_38 {k a t n x : Nat} : (endM M k a t n).1 38 x = if 8 * k ≤ x ∧ x < 8 * k + n then M.1 38 (x + 1) else M.1 38 x := by
  have h : ∀ y, (endP M k a t n).1 38 y = M.1 38 y := fun y => by
    rw [endP_1, if_neg (by omega), if_neg (by omega)]
    rfl
  unfold endM
  split
  · rw [uI_1, if_neg (by omega), shM_38, h, h]
  · rw [shM_38, h, h]
theorem endM_2 {k a t n : Nat} : (endM M k a t n).2 = (endR M a t (endA M k a t)).2 := by
  unfold endM
  split
  · rw [uI_2, shM_2]
    rfl
  · rw [shM_2]
    rfl
theorem endM_ne {k a t n b : Nat} (h : ¬ (b = 23 ∨ b = 30 ∨ b = 31 ∨ b = 36 ∨ b = 38 ∨ b = 39 ∨ b = 40 ∨ b = 41)) (i : Nat) : (endM M k a t n).1 b i = M.1 b i := by
  rw [endM_1 (by omega), if_neg (by omega), endP_1, if_neg (by omega), if_neg (by omega)]
  unfold endA
  rw [uI_1, if_neg (by omega), uI_1, if_neg (by omega), uI_1, if_neg (by omega), uI_1, if_neg (by omega), uI_1, if_neg (by omega)]
theorem endM_23 {k a t n : Nat} (i : Nat) : (endM M k a t n).1 23 i = if i = t then toF M a else M.1 23 i := by
  rw [endM_1 (by omega), if_neg (by omega), endP_1, if_neg (by omega), if_neg (by omega)]
  unfold endA
  simp only [mI_wI, mJ_wI, mP_wI, mL_wI, mA_wI, mI_wJ, mJ_wJ, mP_wJ, mL_wJ, mA_wJ, uI_1, uI_2, uJ_1, uJ_2, Nat.reduceEqDiff, false_and, and_false, true_and, and_true, reduceIte]
theorem endM_30 {k a t n : Nat} (i : Nat) : (endM M k a t n).1 30 i = if i = a then (if M.1 21 t = 4 then 3 else 2) else M.1 30 i := by
  rw [endM_1 (by omega), if_neg (by omega), endP_1, if_neg (by omega), if_neg (by omega)]
  unfold endA
  simp only [mI_wI, mJ_wI, mP_wI, mL_wI, mA_wI, mI_wJ, mJ_wJ, mP_wJ, mL_wJ, mA_wJ, uI_1, uI_2, uJ_1, uJ_2, Nat.reduceEqDiff, false_and, and_false, true_and, and_true, reduceIte]
theorem endM_31 {k a t n : Nat} (i : Nat) : (endM M k a t n).1 31 i = if i = a then M.1 7 9 else M.1 31 i := by
  rw [endM_1 (by omega), if_neg (by omega), endP_1, if_neg (by omega), if_neg (by omega)]
  unfold endA
  simp only [mI_wI, mJ_wI, mP_wI, mL_wI, mA_wI, mI_wJ, mJ_wJ, mP_wJ, mL_wJ, mA_wJ, uI_1, uI_2, uJ_1, uJ_2, Nat.reduceEqDiff, false_and, and_false, true_and, and_true, reduceIte]
theorem endM_36 {k a t n : Nat} (i : Nat) : (endM M k a t n).1 36 i = if n = 0 ∧ i = k then 3 else M.1 36 i := by
  rw [endM_1 (by omega), endP_1]
  unfold endA
  simp only [mI_wI, mJ_wI, mP_wI, mL_wI, mA_wI, mI_wJ, mJ_wJ, mP_wJ, mL_wJ, mA_wJ, uI_1, uI_2, uJ_1, uJ_2, Nat.reduceEqDiff, false_and, and_false, true_and, and_true, reduceIte]
theorem endM_39 {k a t n : Nat} (i : Nat) : (endM M k a t n).1 39 i = if i = k then nI n else M.1 39 i := by
  rw [endM_1 (by omega), if_neg (by omega), endP_1]
  unfold endA
  simp only [mI_wI, mJ_wI, mP_wI, mL_wI, mA_wI, mI_wJ, mJ_wJ, mP_wJ, mL_wJ, mA_wJ, uI_1, uI_2, uJ_1, uJ_2, Nat.reduceEqDiff, false_and, and_false, true_and, and_true, reduceIte]
theorem endM_40 {k a t n : Nat} (i : Nat) : (endM M k a t n).1 40 i = if i = k then 0 else M.1 40 i := by
  rw [endM_1 (by omega), if_neg (by omega), endP_1]
  unfold endA
  simp only [mI_wI, mJ_wI, mP_wI, mL_wI, mA_wI, mI_wJ, mJ_wJ, mP_wJ, mL_wJ, mA_wJ, uI_1, uI_2, uJ_1, uJ_2, Nat.reduceEqDiff, false_and, and_false, true_and, and_true, reduceIte]
  by_cases e : i = k
  · rw [if_pos e, if_pos e]
  · rw [if_neg e, if_neg e, if_neg e]
theorem endM_41 {k a t n : Nat} (i : Nat) : (endM M k a t n).1 41 i = if i = k then wayF (fromF M a) (toF M a) (M.1 23 t) (M.1 41 k) else M.1 41 i := by
  rw [endM_1 (by omega), if_neg (by omega), endP_1, if_neg (by omega), if_neg (by omega)]
  unfold endA
  simp only [mI_wI, mJ_wI, mP_wI, mL_wI, mA_wI, mI_wJ, mJ_wJ, mP_wJ, mL_wJ, mA_wJ, uI_1, uI_2, uJ_1, uJ_2, Nat.reduceEqDiff, false_and, and_false, true_and, and_true, reduceIte]
theorem endM_wkN {k a t n : Nat} (hn : n < 9) (j : Nat) : wkN (endM M k a t n) j = if j = k then n else wkN M j := by
  unfold wkN
  rw [endM_39]
  by_cases e : j = k
  · rw [if_pos e, if_pos e]
    exact ncl hn
  · rw [if_neg e, if_neg e]
theorem endM_ek {f : Nat → Nat → Bool} {k a t n : Nat} (h : ∀ b i, f b i = true → ¬ (b = 23 ∨ b = 30 ∨ b = 31 ∨ b = 36 ∨ b = 38 ∨ b = 39 ∨ b = 40 ∨ b = 41)) : EK f M (endM M k a t n) := fun b i q => endM_ne (h b i q) i
/-! ages -/
theorem mx_c (x v w : Int32) : (if (if x < v then v else x) < w then w else (if x < v then v else x)) = if (if x < w then w else x) < v then v else (if x < w then w else x) := by
  apply Int32.toInt_inj.mp
  simp only [Int32.lt_iff_toInt_lt]
  (repeat' split) <;> omega
theorem age_end {M' : MD} {a : Nat} (h31 : M.1 31 a = -1) (h' : ¬ M'.1 31 a = -1) (ho : ∀ i, i ≠ a → M'.1 31 i = M.1 31 i) (h29 : ∀ i, M'.1 29 i = M.1 29 i) : ∀ n, ageF M' false n = (if a < n then ageF M false n + (M'.1 31 a - M.1 29 a) else ageF M false n) ∧ ageF M' true n = (if a < n then (if ageF M true n < M'.1 31 a - M.1 29 a then M'.1 31 a - M.1 29 a else ageF M true n) else ageF M true n)
  | 0 => ⟨rfl, rfl⟩
  | n + 1 => by
    obtain ⟨i1, i2⟩ := age_end h31 h' ho h29 n
    unfold ageF
    rw [h29, i1, i2]
    by_cases e : n = a
    · subst e
      have z1 : ¬ n < n := by omega
      have z2 : n < n + 1 := by omega
      rw [if_neg z1, if_neg z1, if_pos z2, if_pos z2, if_neg h', if_neg h', if_pos h31, if_pos h31]
      simp only [Bool.false_eq_true, if_false, if_true]
      exact ⟨trivial, trivial⟩
    · rw [ho n e]
      by_cases z : a < n
      · have z2 : a < n + 1 := by omega
        rw [if_pos z, if_pos z, if_pos z2, if_pos z2]
        by_cases y : M.1 31 n = -1
        · rw [if_pos y, if_pos y, if_pos y, if_pos y]
          exact ⟨rfl, rfl⟩
        · rw [if_neg y, if_neg y, if_neg y, if_neg y]
          refine ⟨?_, ?_⟩
          · simp only [Bool.false_eq_true, if_false]
            grind
          · simp only [if_true]
            exact mx_c _ _ _
      · have z2 : ¬ a < n + 1 := by omega
        rw [if_neg z, if_neg z, if_neg z2, if_neg z2]
        exact ⟨rfl, rfl⟩
def wEa (a0 k0 : Nat) : Nat → Nat → Nat → Prop := fun a i j => (a = 1 ∧ 7 ≤ i ∧ j = a0) ∨ a = 89 ∨ (a = 6 ∧ (i = 16 ∨ i = 17)) ∨ (a = 3 ∧ i = 6 ∧ j = k0)
def enC (c2 : HP) (k t : Nat) (w to : Int32) (n : Nat) : HP := if n = 0 then wI (wI (wI (efC c2 k w) 5 4 t to) 6 13 0 (-1)) 3 2 k 3 else wI (wI (efC c2 k w) 5 4 t to) 6 13 0 (-1)
def wEn : Nat → Nat → Nat → Prop := fun a i _ => (a = 3 ∧ 2 ≤ i) ∨ (a = 5 ∧ i = 4) ∨ (a = 6 ∧ i = 13)
theorem en_fr (c2 : HP) (k t : Nat) (w to : Int32) (n : Nat) : FRI wEn c2 (enC c2 k t w to n) := by
  have h : FRI wEn c2 (wI (wI (efC c2 k w) 5 4 t to) 6 13 0 (-1)) := by
    unfold efC
    exact (((((FRI.rf _ _).w _ (by unfold wEn; omega)).w _ (by unfold wEn; omega)).w _ (by unfold wEn; omega)).w _ (by unfold wEn; omega)).w _ (by unfold wEn; omega)
  unfold enC
  split
  · exact h.w _ (by unfold wEn; omega)
  · exact h
theorem en_3 (c2 : HP) (k t : Nat) (w to : Int32) (n i j : Nat) : mI (enC c2 k t w to n) 3 i j = if j = k then (if i = 2 ∧ n = 0 then 3 else if i = 7 then w else if i = 6 then 0 else if i = 4 then mI c2 3 4 k + 1 else mI c2 3 i j) else mI c2 3 i j := by
  unfold enC efC
  by_cases z : n = 0
  · rw [if_pos z]
    simp only [mI_wI, mJ_wI, mP_wI, mL_wI, mA_wI, mI_wJ, mJ_wJ, mP_wJ, mL_wJ, mA_wJ, uI_1, uI_2, uJ_1, uJ_2, Nat.reduceEqDiff, false_and, and_false, true_and, and_true, reduceIte, z]
    by_cases e : j = k
    · simp only [e, and_true, if_true]
    · simp only [e, and_false, if_false]
  · rw [if_neg z]
    simp only [mI_wI, mJ_wI, mP_wI, mL_wI, mA_wI, mI_wJ, mJ_wJ, mP_wJ, mL_wJ, mA_wJ, uI_1, uI_2, uJ_1, uJ_2, Nat.reduceEqDiff, false_and, and_false, true_and, and_true, reduceIte, z]
    by_cases e : j = k
    · simp only [e, and_true, if_true]
    · simp only [e, and_false, if_false]
/-- the ask a of reader k ends; n are left -/
theorem CPT.end_ (h : CPT c M nT nR nA) {k a t n nw : Nat} (hk : k < nR) (ha : a < nA) (ht : t < nT) (hw : wkN M k = n + 1) (h30 : M.1 30 a = 1) (h31 : M.1 31 a = -1) (hnw : M.1 7 9 = nI nw) (hnw2 : nw < 1000000)
    {c2 : HP} (hF : FRJ (wEa a k) c c2) (e7 : mI c2 1 7 a = if M.1 21 t = 4 then 3 else 2) (e8 : mI c2 1 8 a = M.1 7 9) (e9 : mJ c2 1 9 a = (endM M k a t n).2 92 a) (eo : ∀ j, j ≠ a → (endM M k a t n).2 92 j = M.2 92 j) (eR : CRw c2 (endM M k a t n) nT)
    (e16 : mI c2 6 16 0 = mI c 6 16 0 + (M.1 7 9 - M.1 29 a)) (e17 : mI c2 6 17 0 = if mI c 6 17 0 < M.1 7 9 - M.1 29 a then M.1 7 9 - M.1 29 a else mI c 6 17 0) :
    CPT (enC c2 k t (wayF (fromF M a) (toF M a) (M.1 23 t) (M.1 41 k)) (toF M a) n) (endM M k a t n) nT nR nA := by
  obtain ⟨⟨a1, a2, a3, a4, a5, a6, a7, a8⟩, b1, b2, b3, b4⟩ := h
  have hE := en_fr c2 k t (wayF (fromF M a) (toF M a) (M.1 23 t) (M.1 41 k)) (toF M a) n
  have hn8 : n < 8 := by
    obtain ⟨-, -, -, -, -, y, -, -, y8, -⟩ := a4 k hk
    omega
  have hs3 : ¬ (if M.1 21 t = 4 then (3 : Int32) else 2) = 0 := by split <;> decide
  refine ⟨⟨?_, ?_, ?_, ?_, ?_, ?_, ?_, ?_⟩, ?_, ?_, ?_, ?_⟩
  · intro j hj
    obtain ⟨h0, h1, h2, h3, h4, h5, h6, h7, h8, h9⟩ := a1 j hj
    have ef : fromF (endM M k a t n) j = fromF M j := by unfold fromF; rw [endM_ne (by omega), endM_ne (by omega)]
    have et : toF (endM M k a t n) j = toF M j := by unfold toF; rw [endM_ne (by omega), endM_ne (by omega), endM_ne (by omega), endM_ne (by omega), endM_ne (by omega)]
    have g : ∀ i, mI (enC c2 k t (wayF (fromF M a) (toF M a) (M.1 23 t) (M.1 41 k)) (toF M a) n) 1 i j = mI c2 1 i j := fun i => hE.I (fun z => by unfold wEn at z; omega)
    have gJ : mJ (enC c2 k t (wayF (fromF M a) (toF M a) (M.1 23 t) (M.1 41 k)) (toF M a) n) 1 9 j = mJ c2 1 9 j := hE.J 1 9 j
    have f : ∀ i, i < 7 → mI c2 1 i j = mI c 1 i j := fun i hi => hF.I (fun z => by unfold wEa at z; omega)
    rw [g, g, g, g, g, g, g, g, g, gJ, ef, et, f 0 (by omega), f 1 (by omega), f 2 (by omega), f 3 (by omega), f 4 (by omega), f 5 (by omega), f 6 (by omega), endM_ne (by omega), endM_ne (by omega), endM_ne (by omega), endM_ne (by omega), endM_ne (by omega), endM_30, endM_31]
    refine ⟨h0, h1, h2, h3, h4, h5, h6, ?_⟩
    by_cases e : j = a
    · subst e
      rw [if_pos rfl, if_pos rfl]
      exact ⟨e7, e8, e9⟩
    · rw [if_neg e, if_neg e, hF.I (fun z => by unfold wEa at z; omega), hF.I (fun z => by unfold wEa at z; omega), hF.J (fun z => by unfold wEa at z; omega), eo j e]
      exact ⟨h7, h8, h9⟩
  · intro s hs
    obtain ⟨t1, t2, t3, t4, t5, t6⟩ := a2 s hs
    have g : ∀ i, i ≠ 4 → mI (enC c2 k t (wayF (fromF M a) (toF M a) (M.1 23 t) (M.1 41 k)) (toF M a) n) 5 i s = mI c 5 i s := fun i hi => by rw [hE.I (fun z => by unfold wEn at z; omega), hF.I (fun z => by unfold wEa at z; omega)]
    have g4 : mI (enC c2 k t (wayF (fromF M a) (toF M a) (M.1 23 t) (M.1 41 k)) (toF M a) n) 5 4 s = if s = t then toF M a else mI c 5 4 s := by
      have e : mI c2 5 4 s = mI c 5 4 s := hF.I (fun z => by unfold wEa at z; omega)
      rw [← e]
      unfold enC efC
      split <;> simp only [mI_wI, mJ_wI, mP_wI, mL_wI, mA_wI, mI_wJ, mJ_wJ, mP_wJ, mL_wJ, mA_wJ, uI_1, uI_2, uJ_1, uJ_2, Nat.reduceEqDiff, false_and, and_false, true_and, and_true, reduceIte]
    rw [g 0 (by omega), g 1 (by omega), g 2 (by omega), g 5 (by omega), g 6 (by omega), g4, endM_ne (b := 20) (by omega), endM_ne (b := 21) (by omega), endM_ne (b := 22) (by omega), endM_ne (b := 24) (by omega), endM_ne (b := 43) (by omega), endM_ne (b := 43) (by omega), endM_23, t4]
    exact ⟨t1, t2, t3, rfl, t5, t6⟩
  · obtain ⟨h1, h2, h3⟩ := a3
    have q : ∀ j, (decide ((endM M k a t n).1 30 j = 0)) = decide (M.1 30 j = 0) := fun j => by
      rw [endM_30, decide_eq_decide]
      by_cases e : j = a
      · subst e
        rw [if_pos rfl]
        exact ⟨fun z => absurd z hs3, fun z => by rw [h30] at z; exact absurd z (by decide)⟩
      · rw [if_neg e]
    have q' : ∀ j, ((endM M k a t n).1 30 j = 0) = (M.1 30 j = 0) := fun j => propext (decide_eq_decide.mp (q j))
    have n25 : ∀ j, (endM M k a t n).1 25 j = M.1 25 j := fun j => endM_ne (by omega) j
    have n26 : ∀ j, (endM M k a t n).1 26 j = M.1 26 j := fun j => endM_ne (by omega) j
    have n29 : ∀ j, (endM M k a t n).1 29 j = M.1 29 j := fun j => endM_ne (by omega) j
    have g : ∀ b i j, ¬ wEn b i j → ¬ wEa a k b i j → mI (enC c2 k t (wayF (fromF M a) (toF M a) (M.1 23 t) (M.1 41 k)) (toF M a) n) b i j = mI c b i j := fun b i j z1 z2 => by rw [hE.I z1, hF.I z2]
    refine ⟨?_, ?_, fun s hs => ?_⟩
    · rw [g _ _ _ (fun z => by unfold wEn at z; omega) (fun z => by unfold wEa at z; omega), h1]
      simp only [q', n25]
    · rw [g _ _ _ (fun z => by unfold wEn at z; omega) (fun z => by unfold wEa at z; omega), h2]
      simp only [q', n25]
    · rw [g _ _ _ (fun z => by unfold wEn at z; omega) (fun z => by unfold wEa at z; omega), g _ _ _ (fun z => by unfold wEn at z; omega) (fun z => by unfold wEa at z; omega), cn_cong (q := wcl M s) nA (fun j _ => by unfold wcl; simp only [q', n25, n26]), sm_cong (g := crd M s) nA (fun j _ => by unfold crd; simp only [q', n25, n26, n29])]
      exact h3 s hs
  · intro j hj
    obtain ⟨r1, r2, r3, r4, r5, y, r6, r7, r8, r9⟩ := a4 j hj
    have f : ∀ i, (i ≠ 6 ∨ j ≠ k) → mI c2 3 i j = mI c 3 i j := fun i hi => hF.I (fun z => by unfold wEa at z; omega)
    have f19 : ∀ i, mI (enC c2 k t (wayF (fromF M a) (toF M a) (M.1 23 t) (M.1 41 k)) (toF M a) n) 19 i j = mI c 19 i j := fun i => by rw [hE.I (fun z => by unfold wEn at z; omega), hF.I (fun z => by unfold wEa at z; omega)]
    rw [en_3, en_3, en_3, en_3, en_3, en_3, en_3, endM_ne (b := 35) (by omega), endM_36, endM_ne (b := 37) (by omega), endM_40, endM_41, endM_wkN (by omega)]
    by_cases e : j = k
    · subst e
      simp only [if_true, Nat.reduceEqDiff, false_and, true_and, and_true, reduceIte]
      rw [f 0 (by omega), f 2 (by omega), f 3 (by omega), f 4 (by omega), f 5 (by omega), r6, nI_1]
      rw [hw] at r7 r8 r9
      refine ⟨r1, by rw [r2], r3, fun _ => trivial, y + 1, rfl, by rw [r7]; congr 1; omega, by omega, fun i hi => ?_⟩
      rw [f19, endM_38, if_pos (by omega)]
      have := r9 (i + 1) (by omega)
      rw [show y + 1 + i = y + (i + 1) by omega]
      exact this
    · simp only [e, if_false, and_false]
      rw [f 0 (Or.inr e), f 2 (Or.inr e), f 3 (Or.inr e), f 6 (Or.inr e), f 7 (Or.inr e), f 4 (Or.inr e), f 5 (Or.inr e)]
      refine ⟨r1, r2, r3, r4, r5, y, r6, r7, r8, fun i hi => ?_⟩
      rw [f19, endM_38, if_neg (by omega)]
      exact r9 i hi
  · have g : QI (fun b i j => wEn b i j ∨ wEa a k b i j) c (enC c2 k t (wayF (fromF M a) (toF M a) (M.1 23 t) (M.1 41 k)) (toF M a) n) := fun b i j z => by rw [hE.I (fun y => z (Or.inl y)), hF.I (fun y => z (Or.inr y))]
    exact a5.fr g (fun i j _ z => by unfold wEn wEa at z; omega) (endM_ek (fun b i q => by simp only [kJ, Bool.or_eq_true, beq_iff_eq] at q; omega))
  · rw [hE.I (fun z => by unfold wEn at z; omega), hF.I (fun z => by unfold wEa at z; omega), endM_ne (by omega)]
    exact a6
  · rw [hE.I (fun z => by unfold wEn at z; omega), hF.I (fun z => by unfold wEa at z; omega), endM_ne (by omega)]
    exact a7
  · rw [hE.I (fun z => by unfold wEn at z; omega), hF.I (fun z => by unfold wEa at z; omega), endM_ne (by omega)]
    exact a8
  · exact eR.fr (fun j => hE.P 5 3 j) (fun j => hE.L 89 j) (fun i j => hE.J 89 i j) (fun _ => rfl) (fun _ => rfl) (fun _ => rfl)
  · refine Or.inl ?_
    unfold enC
    split <;> simp only [mI_wI, mJ_wI, mP_wI, mL_wI, mA_wI, mI_wJ, mJ_wJ, mP_wJ, mL_wJ, mA_wJ, uI_1, uI_2, uJ_1, uJ_2, Nat.reduceEqDiff, false_and, and_false, true_and, and_true, reduceIte]
  · have hnow : ¬ (endM M k a t n).1 31 a = -1 := by
      rw [endM_31, if_pos rfl, hnw]
      exact nI_m1 (by omega)
    obtain ⟨q1, q2⟩ := age_end (M' := endM M k a t n) h31 hnow (fun i hi => by rw [endM_31, if_neg hi]) (fun i => endM_ne (by omega) i) nA
    unfold AGC
    rw [q1, q2, if_pos ha, if_pos ha, endM_31, if_pos rfl, hE.I (fun z => by unfold wEn at z; omega), hE.I (fun z => by unfold wEn at z; omega), e16, e17, b3.1, b3.2]
    exact ⟨rfl, rfl⟩
  · have g : QI (fun b i j => wEn b i j ∨ wEa a k b i j) c (enC c2 k t (wayF (fromF M a) (toF M a) (M.1 23 t) (M.1 41 k)) (toF M a) n) := fun b i j z => by rw [hE.I (fun y => z (Or.inl y)), hF.I (fun y => z (Or.inr y))]
    exact b4.fr g (fun j z => by unfold wEn wEa at z; omega) (endM_ne (by omega) _)
end ZC31
