/-! A good model stays good: what a piece hangs on -/
def kGH (k _ : Nat) : Bool := k == 23
def kGW (k _ : Nat) : Bool := k == 38 || k == 39
def kGR (k _ : Nat) : Bool := k == 36 || k == 37
def kGJ (k _ : Nat) : Bool := k == 36 || k == 37 || k == 43 || k == 46 || k == 80 || k == 81
def kGT (k _ : Nat) : Bool := k == 24 || k == 37 || k == 43
def kGI (k _ : Nat) : Bool := k == 26 || k == 30 || k == 36 || k == 37 || k == 38 || k == 39 || k == 41
def kGD (k _ : Nat) : Bool := k == 30 || k == 31
def kGp (k _ : Nat) : Bool := k == 42 || k == 43 || k == 44 || k == 45 || k == 80
def kGU (k _ : Nat) : Bool := k == 23 || k == 24 || k == 39 || k == 40
section ZG1
variable {M M' : MD} {nT nR nA : Nat}
theorem GS.fr (h : GS M nT nR nA) (e : EK kS M M') : GS M' nT nR nA := by
  obtain ⟨h1, h2, h3, h4, h5, h6, h7⟩ := h
  exact ⟨by rw [e 7 26 rfl]; exact h1, by rw [e 7 8 rfl]; exact h2, by rw [e 7 1 rfl]; exact h3, fun t ht => by rw [e 20 t rfl]; exact h4 t ht, fun k hk => by rw [e 35 k rfl]; exact h5 k hk, by rw [e 7 10 rfl]; exact h6, fun t ht => by rw [e 22 t rfl]; exact h7 t ht⟩
theorem GA.fr (h : GA M nT nA) (e : EK kS M M') : GA M' nT nA := fun k hk => by
  have ef : fromF M' k = fromF M k := by unfold fromF; rw [e 25 k rfl, e 27 k rfl]
  have et : toF M' k = toF M k := by unfold toF; rw [e 25 k rfl, e 26 k rfl, e 28 k rfl, e 27 k rfl, e 22 _ rfl]
  have e22 : ∀ i, M'.1 22 i = M.1 22 i := fun i => e 22 i rfl
  unfold frN toN
  simp only [ef, et, e 26 k rfl, e22]
  exact h k hk
theorem GH.fr (h : GH M nT) (e : EK kGH M M') : GH M' nT := fun t ht => by
  unfold hdN
  rw [e 23 t rfl]
  exact h t ht
theorem GW.fr (h : GW M nR nA) (e : EK kGW M M') : GW M' nR nA := fun k hk => by
  have e38 : ∀ i, M'.1 38 i = M.1 38 i := fun i => e 38 i rfl
  unfold wkN wkL
  simp only [e 39 k rfl, e38]
  exact h k hk
theorem GR.fr (h : GR M nR nT) (e : EK kGR M M') : GR M' nR nT := fun k hk => by
  unfold rtN
  simp only [e 36 k rfl, e 37 k rfl]
  exact h k hk
theorem GJ.fr (h : GJ M nT nR) (e : EK kGJ M M') : GJ M' nT nR := by
  have e1 : ∀ i, M'.1 36 i = M.1 36 i := fun i => e 36 i rfl
  have e2 : ∀ i, M'.1 37 i = M.1 37 i := fun i => e 37 i rfl
  have e3 : ∀ i, M'.1 43 i = M.1 43 i := fun i => e 43 i rfl
  have e4 : ∀ i, M'.1 46 i = M.1 46 i := fun i => e 46 i rfl
  have e5 : ∀ i, M'.1 80 i = M.1 80 i := fun i => e 80 i rfl
  have e6 : ∀ i, M'.1 81 i = M.1 81 i := fun i => e 81 i rfl
  unfold GJ
  simp only [e1, e2, e3, e4, e5, e6]
  exact h
theorem GT.fr (h : GT M nT nR) (e : EK kGT M M') : GT M' nT nR := by
  have e2 : ∀ i, M'.1 37 i = M.1 37 i := fun i => e 37 i rfl
  have e3 : ∀ i, M'.1 43 i = M.1 43 i := fun i => e 43 i rfl
  have e4 : ∀ i, M'.1 24 i = M.1 24 i := fun i => e 24 i rfl
  unfold GT
  simp only [e2, e3, e4]
  exact h
theorem GI.fr (h : GI M nR) (e : EK kGI M M') : GI M' nR := by
  have e1 : ∀ i, M'.1 36 i = M.1 36 i := fun i => e 36 i rfl
  have e2 : ∀ i, M'.1 37 i = M.1 37 i := fun i => e 37 i rfl
  have e3 : ∀ i, M'.1 26 i = M.1 26 i := fun i => e 26 i rfl
  have e4 : ∀ i, M'.1 30 i = M.1 30 i := fun i => e 30 i rfl
  have e5 : ∀ i, M'.1 41 i = M.1 41 i := fun i => e 41 i rfl
  have e6 : ∀ k, wkN M' k = wkN M k := fun k => by unfold wkN; rw [e 39 k rfl]
  have e7 : ∀ k i, wkL M' k i = wkL M k i := fun k i => by unfold wkL; rw [e 38 _ rfl]
  unfold GI
  simp only [e1, e2, e3, e4, e5, e6, e7]
  exact h
theorem GD.fr (h : GD M nA) (e : EK kGD M M') : GD M' nA := fun k hk => by
  rw [e 30 k rfl, e 31 k rfl]
  exact h k hk
theorem GSp.fr (h : GSp M) (e : EK kGp M M') : GSp M' := by
  unfold GSp goalF
  rw [e 43 0 rfl, e 43 1 rfl, e 42 0 rfl, e 42 1 rfl, e 44 0 rfl, e 44 1 rfl, e 45 0 rfl, e 45 1 rfl, e 80 0 rfl, e 80 1 rfl]
  exact h
theorem GU.fr (h : GU M nT nR nA) (e : EK kGU M M') (e2 : M'.2 = M.2) : GU M' nT nR nA := by
  obtain ⟨h1, h2, h3, h4⟩ := h
  exact ⟨fun t ht => by rw [e 23 t rfl, e 24 t rfl]; exact h1 t ht, fun i hi => by rw [e2]; exact h2 i hi, fun k hk => by rw [e2]; exact h3 k hk, fun k hk => by rw [e 39 k rfl, e 40 k rfl]; exact h4 k hk⟩
/-- where only one arm has a job -/
theorem GSp.no {k : Nat} (hk : k < 2) (h : M.1 43 k = -1) : GSp M := by
  have hk2 : k = 0 ∨ k = 1 := by omega
  rcases hk2 with rfl | rfl
  · exact fun z _ => absurd h z
  · exact fun _ z => absurd h z
/-- an arm's next piece of way lies within that of before -/
theorem GSp.st {k : Nat} (hk : k < 2) (h : GSp M) (e43 : ∀ j, M'.1 43 j = M.1 43 j) (eo : M'.1 42 (1 - k) = M.1 42 (1 - k) ∧ goalF M' (1 - k) = goalF M (1 - k) ∧ M'.1 45 (1 - k) = M.1 45 (1 - k)) (e45 : M'.1 45 k = M.1 45 k)
    (h1 : (lo3 (M.1 42 k) (goalF M k) (M.1 45 k)).toInt ≤ (M'.1 42 k).toInt ∧ (M'.1 42 k).toInt ≤ (hi3 (M.1 42 k) (goalF M k) (M.1 45 k)).toInt) (h2 : (lo3 (M.1 42 k) (goalF M k) (M.1 45 k)).toInt ≤ (goalF M' k).toInt ∧ (goalF M' k).toInt ≤ (hi3 (M.1 42 k) (goalF M k) (M.1 45 k)).toInt) : GSp M' := by
  intro z0 z1
  rw [e43] at z0 z1
  have g := Int32.lt_iff_toInt_lt.mp (h z0 z1)
  apply Int32.lt_iff_toInt_lt.mpr
  have hk2 : k = 0 ∨ k = 1 := by omega
  rcases hk2 with rfl | rfl
  · obtain ⟨q1, q2, q3⟩ := eo
    simp only [Nat.sub_zero] at q1 q2 q3
    rw [q1, q2, q3, e45]
    have u := le_hi3 (M'.1 42 0) (goalF M' 0) (M.1 45 0)
    have v := le_hi3 (M.1 42 0) (goalF M 0) (M.1 45 0)
    omega
  · obtain ⟨q1, q2, q3⟩ := eo
    simp only [Nat.sub_self] at q1 q2 q3
    rw [q1, q2, q3, e45]
    have u := lo3_le (M'.1 42 1) (goalF M' 1) (M.1 45 1)
    have v := lo3_le (M.1 42 1) (goalF M 1) (M.1 45 1)
    omega
theorem GJ_ne {t : Nat} (gT : GT M nT nR) {k : Nat} (hk : k < 2) (h43 : M.1 43 k = nI t) (ht : t < 12) : ¬ M.1 43 (1 - k) = nI t := by
  intro z
  have hk2 : k = 0 ∨ k = 1 := by omega
  rcases hk2 with rfl | rfl
  · have := gT.2.1 (h43.trans z.symm)
    rw [h43] at this
    exact nI_m1 (by omega) this
  · have := gT.2.1 (z.trans h43.symm)
    rw [show M.1 43 0 = nI t from z] at this
    exact nI_m1 (by omega) this
/-- witness of a job, less one arm -/
theorem GT_w {k s : Nat} (hk : k < 2) (h : M.1 43 0 = nI s ∨ M.1 43 1 = nI s) (hn : ¬ M.1 43 k = nI s) : M.1 43 (1 - k) = nI s := by
  have hk2 : k = 0 ∨ k = 1 := by omega
  rcases hk2 with rfl | rfl
  · exact h.resolve_left hn
  · exact h.resolve_right hn
theorem GT_v {k s : Nat} (hk : k < 2) (h : M'.1 43 k = nI s) : M'.1 43 0 = nI s ∨ M'.1 43 1 = nI s := by
  have hk2 : k = 0 ∨ k = 1 := by omega
  rcases hk2 with rfl | rfl
  · exact Or.inl h
  · exact Or.inr h
/-! an arm goes, takes, puts at home -/
theorem GMI.go (h : GMI M nT nR nA) {k : Nat} (hk : k < 2) (hj : ¬ M.1 43 k = -1) (hne : ¬ M.1 42 k = goalF M k) : GMI (goM M k) nT nR nA := by
  obtain ⟨gS, gA, gH, gW, gR, gJ, gT, gI, gD, gSp, gU⟩ := h
  refine ⟨gS.fr (goM_ek (fun _ => rfl) rfl), gA.fr (goM_ek (fun _ => rfl) rfl), gH.fr (goM_ek (fun _ => rfl) rfl), gW.fr (goM_ek (fun _ => rfl) rfl), gR.fr (goM_ek (fun _ => rfl) rfl), gJ.fr (goM_ek (fun _ => rfl) rfl), gT.fr (goM_ek (fun _ => rfl) rfl), gI.fr (goM_ek (fun _ => rfl) rfl), gD.fr (goM_ek (fun _ => rfl) rfl), ?_, gU.fr (goM_ek (fun _ => rfl) rfl) goM_2⟩
  have e := goM_ek (M := M) (k := k) (f := fun a _ => a == 43 || a == 44 || a == 45 || a == 80) (fun _ => rfl) rfl
  by_cases ho : M.1 43 (1 - k) = -1
  · refine GSp.no (k := 1 - k) (by omega) ?_
    rw [e 43 _ rfl]
    exact ho
  have hnp := GSp_ne gSp hk hj ho hne
  have hp : pushM M k = M := by unfold pushM; rw [if_neg hnp]
  have eg : ∀ j, goalF (goM M k) j = goalF M j := fun j => by unfold goalF; rw [e 80 j rfl, e 44 j rfl, e 45 j rfl]
  have e42 : ∀ j, (goM M k).1 42 j = if j = k then M.1 42 k + stepF M k else M.1 42 j := fun j => by
    unfold goM
    rw [hp]
    simp only [mI_wI, mJ_wI, mP_wI, mL_wI, mA_wI, mI_wJ, mJ_wJ, mP_wJ, mL_wJ, mA_wJ, uI_1, uI_2, uJ_1, uJ_2, Nat.reduceEqDiff, false_and, and_false, true_and, and_true, reduceIte]
  have hs := step_in hne
  have u := le_hi3 (M.1 42 k) (goalF M k) (M.1 45 k)
  have v := lo3_le (M.1 42 k) (goalF M k) (M.1 45 k)
  refine GSp.st hk gSp (fun j => e 43 j rfl) ⟨by rw [e42, if_neg (by omega)], eg _, e 45 _ rfl⟩ (e 45 _ rfl) ?_ ?_
  · rw [e42, if_pos rfl]
    omega
  · rw [eg]
    omega
theorem GMI.takeS (gSp : GSp M) {k : Nat} (hk : k < 2) (e42 : ∀ j, M'.1 42 j = M.1 42 j) (e43 : ∀ j, M'.1 43 j = M.1 43 j) (e44 : ∀ j, M'.1 44 j = M.1 44 j) (e45 : ∀ j, M'.1 45 j = M.1 45 j) (e80 : ∀ j, M'.1 80 j = if j = k then 1 else M.1 80 j) : GSp M' := by
  have u := le_hi3 (M.1 42 k) (goalF M k) (M.1 45 k)
  have v := lo3_le (M.1 42 k) (goalF M k) (M.1 45 k)
  have g1 : goalF M' (1 - k) = goalF M (1 - k) := by unfold goalF; rw [e80, if_neg (show ¬ 1 - k = k by omega), e44, e45]
  have g2 : goalF M' k = M.1 45 k := by unfold goalF; rw [e80, if_pos rfl, if_neg (by decide), e45]
  refine GSp.st hk gSp e43 ⟨e42 _, g1, e45 _⟩ (e45 _) ?_ ?_
  · rw [e42]
    omega
  · rw [g2]
    omega
theorem GMI.take (h : GMI M nT nR nA) (hT2 : nT ≤ 12) (hR2 : nR ≤ 3) {k t r : Nat} (hk : k < 2) (h80 : M.1 80 k = 0) (ht : t < nT) (hr : r < nR) (h43 : M.1 43 k = nI t) (h46 : M.1 46 k = nI r) : GMI (takeM M k t r) nT nR nA := by
  obtain ⟨gS, gA, gH, gW, gR, gJ, gT, gI, gD, gSp, gU⟩ := h
  have hm1 : ∀ s, s < 13 → ¬ nI s = -1 := fun s hs => nI_m1 (by omega)
  have hj : ¬ M.1 43 k = -1 := by rw [h43]; exact hm1 t (by omega)
  have ho := GJ_ne gT hk h43 (by omega)
  obtain ⟨t', r', t1, r1, e1, e2, hcase⟩ := gJ k hk hj
  have ht' : t' = t := by rw [h43, nI_eq_iff] at e1; exact e1.symm
  have hr' : r' = r := by rw [h46, nI_eq_iff] at e2; exact e2.symm
  subst ht' hr'
  by_cases z : M.1 81 k = 0
  · obtain ⟨c37, c36⟩ : M.1 37 r' = nI t' ∧ (M.1 36 r' = 3 ∨ M.1 36 r' = 4) := by
      rcases hcase with ⟨-, -, q1, q2⟩ | ⟨-, q, -⟩ | ⟨q, -⟩
      · exact ⟨q1, q2⟩
      · rw [h80] at q; exact absurd q (by decide)
      · rw [z] at q; exact absurd q (by decide)
    obtain ⟨N, hN⟩ : ∃ N, N = takeM M k t' r' := ⟨_, rfl⟩
    have ne : ∀ b i, ¬ (b = 80 ∨ b = 24 ∨ b = 37 ∨ b = 36) → N.1 b i = M.1 b i := fun b i q => by
      rw [hN]
      unfold takeM
      rw [if_pos z]
      split
      · rw [uI_1, if_neg (by omega), uI_1, if_neg (by omega), uI_1, if_neg (by omega)]
      · rw [uI_1, if_neg (by omega), uI_1, if_neg (by omega), uI_1, if_neg (by omega), uI_1, if_neg (by omega)]
    have n80 : ∀ i, N.1 80 i = if i = k then 1 else M.1 80 i := fun i => by
      rw [hN]
      unfold takeM
      rw [if_pos z]
      split <;> simp only [mI_wI, mJ_wI, mP_wI, mL_wI, mA_wI, mI_wJ, mJ_wJ, mP_wJ, mL_wJ, mA_wJ, uI_1, uI_2, uJ_1, uJ_2, Nat.reduceEqDiff, false_and, and_false, true_and, and_true, reduceIte]
    have n24 : ∀ i, N.1 24 i = if i = t' then 1 else M.1 24 i := fun i => by
      rw [hN]
      unfold takeM
      rw [if_pos z]
      split <;> simp only [mI_wI, mJ_wI, mP_wI, mL_wI, mA_wI, mI_wJ, mJ_wJ, mP_wJ, mL_wJ, mA_wJ, uI_1, uI_2, uJ_1, uJ_2, Nat.reduceEqDiff, false_and, and_false, true_and, and_true, reduceIte]
    have n37 : ∀ i, N.1 37 i = if i = r' then -1 else M.1 37 i := fun i => by
      rw [hN]
      unfold takeM
      rw [if_pos z]
      split <;> simp only [mI_wI, mJ_wI, mP_wI, mL_wI, mA_wI, mI_wJ, mJ_wJ, mP_wJ, mL_wJ, mA_wJ, uI_1, uI_2, uJ_1, uJ_2, Nat.reduceEqDiff, false_and, and_false, true_and, and_true, reduceIte]
    have n36 : ∀ i, N.1 36 i = if i = r' then (if M.1 36 r' = 4 then 4 else 0) else M.1 36 i := fun i => by
      rw [hN]
      unfold takeM
      rw [if_pos z]
      by_cases y : M.1 36 r' = 4
      · rw [if_pos y, if_pos y]
        simp only [mI_wI, mJ_wI, mP_wI, mL_wI, mA_wI, mI_wJ, mJ_wJ, mP_wJ, mL_wJ, mA_wJ, uI_1, uI_2, uJ_1, uJ_2, Nat.reduceEqDiff, false_and, and_false, true_and, and_true, reduceIte]
        by_cases e : i = r'
        · rw [if_pos e, e]
          exact y
        · rw [if_neg e]
      · rw [if_neg y, if_neg y]
        simp only [mI_wI, mJ_wI, mP_wI, mL_wI, mA_wI, mI_wJ, mJ_wJ, mP_wJ, mL_wJ, mA_wJ, uI_1, uI_2, uJ_1, uJ_2, Nat.reduceEqDiff, false_and, and_false, true_and, and_true, reduceIte]
    have n2 : N.2 = M.2 := by
      rw [hN]
      unfold takeM
      rw [if_pos z]
      split <;> rfl
    have ek : ∀ f : Nat → Nat → Bool, (∀ b i, f b i = true → ¬ (b = 80 ∨ b = 24 ∨ b = 37 ∨ b = 36)) → EK f M N := fun f q b i y => ne b i (q b i y)
    have hn2 : ¬ M.1 36 r' = 2 := by rcases c36 with q | q <;> rw [q] <;> decide
    rw [← hN]
    refine ⟨gS.fr (ek _ (fun b i q => by simp only [kS, Bool.or_eq_true, Bool.and_eq_true, beq_iff_eq] at q; omega)), gA.fr (ek _ (fun b i q => by simp only [kS, Bool.or_eq_true, Bool.and_eq_true, beq_iff_eq] at q; omega)), gH.fr (ek _ (fun b i q => by simp only [kGH, beq_iff_eq] at q; omega)), gW.fr (ek _ (fun b i q => by simp only [kGW, Bool.or_eq_true, beq_iff_eq] at q; omega)), ?_, ?_, ?_, ?_, gD.fr (ek _ (fun b i q => by simp only [kGD, Bool.or_eq_true, beq_iff_eq] at q; omega)), GMI.takeS gSp hk (fun j => ne 42 j (by omega)) (fun j => ne 43 j (by omega)) (fun j => ne 44 j (by omega)) (fun j => ne 45 j (by omega)) n80, ?_⟩
    · intro i hi
      unfold rtN
      rw [n37, n36]
      by_cases e : i = r'
      · rw [if_pos e, if_pos e]
        refine Or.inl ⟨rfl, ?_⟩
        split
        · exact Or.inr rfl
        · exact Or.inl rfl
      · rw [if_neg e, if_neg e]
        exact gR i hi
    · intro j hj2 q
      rw [ne 43 j (by omega)] at q
      by_cases e : j = k
      · subst e
        refine ⟨t', r', t1, r1, by rw [ne 43 j (by omega)]; exact e1, by rw [ne 46 j (by omega)]; exact e2, Or.inr (Or.inl ⟨by rw [ne 81 j (by omega)]; exact z, by rw [n80, if_pos rfl], fun i hi y => ?_⟩)⟩
        rw [n37] at y
        by_cases e : i = r'
        · rw [if_pos e] at y
          exact hm1 t' (by omega) y.symm
        · rw [if_neg e] at y
          have := gT.1 i r' hi r1 e (y.trans c37.symm)
          rw [y] at this
          exact hm1 t' (by omega) this
      · obtain rfl : j = 1 - k := by omega
        obtain ⟨s, u, s1, u1, s2, u2, hc⟩ := gJ (1 - k) hj2 q
        have hst : ¬ s = t' := fun w => ho (by rw [← w]; exact s2)
        have hur : M.1 37 u = nI s → ¬ u = r' := fun w y => hst (by rw [y, c37, nI_eq_iff] at w; exact w.symm)
        refine ⟨s, u, s1, u1, by rw [ne 43 _ (by omega)]; exact s2, by rw [ne 46 _ (by omega)]; exact u2, ?_⟩
        rw [ne 81 _ (by omega), n80, if_neg e]
        rcases hc with ⟨w1, w2, w3, w4⟩ | ⟨w1, w2, w3⟩ | ⟨w1, w2, w3, w4⟩
        · refine Or.inl ⟨w1, w2, ?_⟩
          rw [n37, n36, if_neg (hur w3), if_neg (hur w3)]
          exact ⟨w3, w4⟩
        · refine Or.inr (Or.inl ⟨w1, w2, fun i hi y => ?_⟩)
          rw [n37] at y
          by_cases e : i = r'
          · rw [if_pos e] at y
            exact hm1 s (by omega) y.symm
          · rw [if_neg e] at y
            exact w3 i hi y
        · refine Or.inr (Or.inr ⟨w1, w2, ?_⟩)
          rw [n37, n36, if_neg (hur w3), if_neg (hur w3)]
          exact ⟨w3, w4⟩
    · refine ⟨fun i j hi hj3 hij y => ?_, ?_, fun i s hi hs y1 y2 => ?_⟩
      · rw [n37, n37] at y
        rw [n37]
        by_cases e : i = r'
        · rw [if_pos e]
        · rw [if_neg e] at y ⊢
          by_cases e' : j = r'
          · rw [if_pos e'] at y
            exact y
          · rw [if_neg e'] at y
            exact gT.1 i j hi hj3 hij y
      · rw [ne 43 0 (by omega), ne 43 1 (by omega)]
        exact gT.2.1
      · rw [n37] at y1
        rw [n24] at y2
        rw [ne 43 0 (by omega), ne 43 1 (by omega)]
        by_cases e : i = r'
        · rw [if_pos e] at y1
          exact absurd y1.symm (hm1 s (by omega))
        · rw [if_neg e] at y1
          by_cases e' : s = t'
          · rw [if_pos e'] at y2
            exact absurd y2 (by decide)
          · rw [if_neg e'] at y2
            exact gT.2.2 i s hi hs y1 y2
    · intro j hj3
      obtain ⟨i1, i2, i3⟩ := gI j hj3
      have ew : wkN N j = wkN M j := by unfold wkN; rw [ne 39 j (by omega)]
      have el : ∀ i, wkL N j i = wkL M j i := fun i => by unfold wkL; rw [ne 38 _ (by omega)]
      rw [ew, n36, n37]
      by_cases e : j = r'
      · subst e
        have hz := i1 hn2
        rw [if_pos rfl, if_pos rfl, hz]
        refine ⟨fun _ => rfl, fun w => ?_, fun i hi => by omega⟩
        split at w <;> exact absurd w (by decide)
      · rw [if_neg e, if_neg e, ne 41 j (by omega)]
        refine ⟨i1, i2, fun i hi => ?_⟩
        simp only [el]
        rw [ne 26 _ (by omega), ne 30 _ (by omega)]
        exact i3 i hi
    · obtain ⟨u1, u2, u3, u4⟩ := gU
      exact ⟨fun s hs => by rw [ne 23 s (by omega), n24, if_neg (by omega)]; exact u1 s hs, fun i hi => by rw [n2]; exact u2 i hi, fun i hi => by rw [n2]; exact u3 i hi, fun i hi => by rw [ne 39 i (by omega), ne 40 i (by omega)]; exact u4 i hi⟩
  · obtain ⟨z1, c37, c36⟩ : M.1 81 k = 1 ∧ M.1 37 r' = nI t' ∧ M.1 36 r' = 1 := by
      rcases hcase with ⟨q, -⟩ | ⟨q, -⟩ | ⟨q0, -, q1, q2⟩
      · exact absurd q z
      · exact absurd q z
      · exact ⟨q0, q1, q2⟩
    obtain ⟨N, hN⟩ : ∃ N, N = takeM M k t' r' := ⟨_, rfl⟩
    have ne : ∀ b i, ¬ (b = 80 ∨ b = 24) → N.1 b i = M.1 b i := fun b i q => by
      rw [hN]
      unfold takeM
      rw [if_neg z, uI_1, if_neg (by omega), uI_1, if_neg (by omega)]
    have n80 : ∀ i, N.1 80 i = if i = k then 1 else M.1 80 i := fun i => by
      rw [hN]
      unfold takeM
      rw [if_neg z]
      simp only [mI_wI, mJ_wI, mP_wI, mL_wI, mA_wI, mI_wJ, mJ_wJ, mP_wJ, mL_wJ, mA_wJ, uI_1, uI_2, uJ_1, uJ_2, Nat.reduceEqDiff, false_and, and_false, true_and, and_true, reduceIte]
    have n24 : ∀ i, N.1 24 i = if i = t' then 1 else M.1 24 i := fun i => by
      rw [hN]
      unfold takeM
      rw [if_neg z]
      simp only [mI_wI, mJ_wI, mP_wI, mL_wI, mA_wI, mI_wJ, mJ_wJ, mP_wJ, mL_wJ, mA_wJ, uI_1, uI_2, uJ_1, uJ_2, Nat.reduceEqDiff, false_and, and_false, true_and, and_true, reduceIte]
    have n2 : N.2 = M.2 := by
      rw [hN]
      unfold takeM
      rw [if_neg z]
      rfl
    have ek : ∀ f : Nat → Nat → Bool, (∀ b i, f b i = true → ¬ (b = 80 ∨ b = 24)) → EK f M N := fun f q b i y => ne b i (q b i y)
    rw [← hN]
    refine ⟨gS.fr (ek _ (fun b i q => by simp only [kS, Bool.or_eq_true, Bool.and_eq_true, beq_iff_eq] at q; omega)), gA.fr (ek _ (fun b i q => by simp only [kS, Bool.or_eq_true, Bool.and_eq_true, beq_iff_eq] at q; omega)), gH.fr (ek _ (fun b i q => by simp only [kGH, beq_iff_eq] at q; omega)), gW.fr (ek _ (fun b i q => by simp only [kGW, Bool.or_eq_true, beq_iff_eq] at q; omega)), gR.fr (ek _ (fun b i q => by simp only [kGR, Bool.or_eq_true, beq_iff_eq] at q; omega)), ?_, ?_, gI.fr (ek _ (fun b i q => by simp only [kGI, Bool.or_eq_true, beq_iff_eq] at q; omega)), gD.fr (ek _ (fun b i q => by simp only [kGD, Bool.or_eq_true, beq_iff_eq] at q; omega)), GMI.takeS gSp hk (fun j => ne 42 j (by omega)) (fun j => ne 43 j (by omega)) (fun j => ne 44 j (by omega)) (fun j => ne 45 j (by omega)) n80, ?_⟩
    · intro j hj2 q
      rw [ne 43 j (by omega)] at q
      obtain ⟨s, u, s1, u1, s2, u2, hc⟩ := gJ j hj2 q
      refine ⟨s, u, s1, u1, by rw [ne 43 j (by omega)]; exact s2, by rw [ne 46 j (by omega)]; exact u2, ?_⟩
      rw [ne 81 j (by omega), n80, ne 37 u (by omega), ne 36 u (by omega)]
      by_cases e : j = k
      · subst e
        rw [if_pos rfl]
        rcases hc with ⟨w, -⟩ | ⟨w, -⟩ | ⟨w1, w2, w3, w4⟩
        · exact absurd w z
        · exact absurd w z
        · exact Or.inr (Or.inr ⟨w1, Or.inr rfl, w3, w4⟩)
      · rw [if_neg e]
        rcases hc with w | ⟨w1, w2, w3⟩ | w
        · exact Or.inl w
        · exact Or.inr (Or.inl ⟨w1, w2, fun i hi => by rw [ne 37 i (by omega)]; exact w3 i hi⟩)
        · exact Or.inr (Or.inr w)
    · refine ⟨fun i j => by rw [ne 37 i (by omega), ne 37 j (by omega)]; exact gT.1 i j, by rw [ne 43 0 (by omega), ne 43 1 (by omega)]; exact gT.2.1, fun i s hi hs y1 y2 => ?_⟩
      rw [ne 37 i (by omega)] at y1
      rw [n24] at y2
      rw [ne 43 0 (by omega), ne 43 1 (by omega)]
      by_cases e' : s = t'
      · rw [if_pos e'] at y2
        exact absurd y2 (by decide)
      · rw [if_neg e'] at y2
        exact gT.2.2 i s hi hs y1 y2
    · obtain ⟨u1, u2, u3, u4⟩ := gU
      exact ⟨fun s hs => by rw [ne 23 s (by omega), n24, if_neg (by omega)]; exact u1 s hs, fun i hi => by rw [n2]; exact u2 i hi, fun i hi => by rw [n2]; exact u3 i hi, fun i hi => by rw [ne 39 i (by omega), ne 40 i (by omega)]; exact u4 i hi⟩
end ZG1
