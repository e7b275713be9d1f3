/-! A good model stays good: an arm puts, a reader begins -/
section ZG2
variable {M : MD} {nT nR nA : Nat}
theorem GMI.home (h : GMI M nT nR nA) (hT2 : nT ≤ 12) (hR2 : nR ≤ 3) {k t r : Nat} (hk : k < 2) (h80 : ¬ M.1 80 k = 0) (h81 : M.1 81 k = 0) (ht : t < nT) (h43 : M.1 43 k = nI t) : GMI (uI (uI (uI M 43 k (-1)) 80 k 0) 24 t 0) nT nR nA := by
  obtain ⟨gS, gA, gH, gW, gR, gJ, gT, gI, gD, gSp, gU⟩ := h
  have hm1 : ∀ s, s < 13 → ¬ nI s = -1 := fun s hs => nI_m1 (by omega)
  have hj : ¬ M.1 43 k = -1 := by rw [h43]; exact hm1 t (by omega)
  have ho := GJ_ne gT hk h43 (by omega)
  obtain ⟨t', r', t1, r1, e1, e2, hcase⟩ := gJ k hk hj
  have ht' : t' = t := by rw [h43, nI_eq_iff] at e1; exact e1.symm
  subst ht'
  have c37 : ∀ j, j < nR → ¬ M.1 37 j = nI t' := by
    rcases hcase with ⟨-, q, -⟩ | ⟨-, -, q⟩ | ⟨q, -⟩
    · exact absurd q h80
    · exact q
    · rw [h81] at q; exact absurd q (by decide)
  obtain ⟨N, hN⟩ : ∃ N, N = uI (uI (uI M 43 k (-1)) 80 k 0) 24 t' 0 := ⟨_, rfl⟩
  have ne : ∀ b i, ¬ (b = 80 ∨ b = 24 ∨ b = 43) → N.1 b i = M.1 b i := fun b i q => by
    rw [hN, uI_1, if_neg (by omega), uI_1, if_neg (by omega), uI_1, if_neg (by omega)]
  have n43 : ∀ i, N.1 43 i = if i = k then -1 else M.1 43 i := fun i => by rw [hN]; simp only [mI_wI, mJ_wI, mP_wI, mL_wI, mA_wI, mI_wJ, mJ_wJ, mP_wJ, mL_wJ, mA_wJ, uI_1, uI_2, uJ_1, uJ_2, Nat.reduceEqDiff, false_and, and_false, true_and, and_true, reduceIte]
  have n80 : ∀ i, N.1 80 i = if i = k then 0 else M.1 80 i := fun i => by rw [hN]; simp only [mI_wI, mJ_wI, mP_wI, mL_wI, mA_wI, mI_wJ, mJ_wJ, mP_wJ, mL_wJ, mA_wJ, uI_1, uI_2, uJ_1, uJ_2, Nat.reduceEqDiff, false_and, and_false, true_and, and_true, reduceIte]
  have n24 : ∀ i, N.1 24 i = if i = t' then 0 else M.1 24 i := fun i => by rw [hN]; simp only [mI_wI, mJ_wI, mP_wI, mL_wI, mA_wI, mI_wJ, mJ_wJ, mP_wJ, mL_wJ, mA_wJ, uI_1, uI_2, uJ_1, uJ_2, Nat.reduceEqDiff, false_and, and_false, true_and, and_true, reduceIte]
  have n2 : N.2 = M.2 := by rw [hN]; rfl
  have ek : ∀ f : Nat → Nat → Bool, (∀ b i, f b i = true → ¬ (b = 80 ∨ b = 24 ∨ b = 43)) → EK f M N := fun f q b i y => ne b i (q b i y)
  rw [← hN]
  refine ⟨gS.fr (ek kS (fun b i q => by simp only [kS, Bool.or_eq_true, Bool.and_eq_true, beq_iff_eq] at q; omega)), gA.fr (ek kS (fun b i q => by simp only [kS, Bool.or_eq_true, Bool.and_eq_true, beq_iff_eq] at q; omega)), gH.fr (ek kGH (fun b i q => by simp only [kGH, Bool.or_eq_true, Bool.and_eq_true, beq_iff_eq] at q; omega)), gW.fr (ek kGW (fun b i q => by simp only [kGW, Bool.or_eq_true, Bool.and_eq_true, beq_iff_eq] at q; omega)), gR.fr (ek kGR (fun b i q => by simp only [kGR, Bool.or_eq_true, Bool.and_eq_true, beq_iff_eq] at q; omega)), ?_, ?_, gI.fr (ek kGI (fun b i q => by simp only [kGI, Bool.or_eq_true, Bool.and_eq_true, beq_iff_eq] at q; omega)), gD.fr (ek kGD (fun b i q => by simp only [kGD, Bool.or_eq_true, Bool.and_eq_true, beq_iff_eq] at q; omega)), GSp.no hk (by rw [n43, if_pos rfl]), ?_⟩
  · intro j hj2 q
    rw [n43] at q
    by_cases e : j = k
    · rw [if_pos e] at q
      exact absurd rfl q
    · rw [if_neg e] at q
      obtain ⟨s, u, s1, u1, s2, u2, hc⟩ := gJ j hj2 q
      refine ⟨s, u, s1, u1, by rw [n43, if_neg e]; exact s2, by rw [ne 46 j (by omega)]; exact u2, ?_⟩
      rw [ne 81 j (by omega), n80, if_neg e, ne 37 u (by omega), ne 36 u (by omega)]
      rcases hc with w | ⟨w1, w2, w3⟩ | w
      · exact Or.inl w
      · exact Or.inr (Or.inl ⟨w1, w2, fun i hi => by rw [ne 37 i (by omega)]; exact w3 i hi⟩)
      · exact Or.inr (Or.inr w)
  · refine ⟨fun i j => by rw [ne 37 i (by omega), ne 37 j (by omega)]; exact gT.1 i j, fun q => ?_, fun i s hi hs y1 y2 => ?_⟩
    · rw [n43, n43] at q
      rw [n43]
      have hk2 : k = 0 ∨ k = 1 := by omega
      rcases hk2 with rfl | rfl
      · rfl
      · exact q
    · rw [ne 37 i (by omega)] at y1
      have hs' : ¬ s = t' := fun w => c37 i hi (by rw [← w]; exact y1)
      rw [n24, if_neg hs'] at y2
      have w := GT_w hk (gT.2.2 i s hi hs y1 y2) (fun z => hs' (by rw [h43, nI_eq_iff] at z; exact z.symm))
      exact GT_v (k := 1 - k) (by omega) (by rw [n43, if_neg (by omega)]; exact w)
  · obtain ⟨u1, u2, u3, u4⟩ := gU
    exact ⟨fun s hs => by rw [ne 23 s (by omega), n24, if_neg (by omega)]; exact u1 s hs, fun i hi => by rw [n2]; exact u2 i hi, fun i hi => by rw [n2]; exact u3 i hi, fun i hi => by rw [ne 39 i (by omega), ne 40 i (by omega)]; exact u4 i hi⟩
theorem GMI.begins (h : GMI M nT nR nA) (hT2 : nT ≤ 12) (hR2 : nR ≤ 3) (hA2 : nA ≤ 150) {k t r : Nat} (hk : k < 2) (h81 : ¬ M.1 81 k = 0) (ht : t < nT) (hr : r < nR) (h43 : M.1 43 k = nI t) (h46 : M.1 46 k = nI r) : GMI (beginsM (uI (uI M 43 k (-1)) 80 k 0) r t nA) nT nR nA := by
  obtain ⟨gS, gA, gH, gW, gR, gJ, gT, gI, gD, gSp, gU⟩ := h
  have hm1 : ∀ s, s < 13 → ¬ nI s = -1 := fun s hs => nI_m1 (by omega)
  have hj : ¬ M.1 43 k = -1 := by rw [h43]; exact hm1 t (by omega)
  have ho := GJ_ne gT hk h43 (by omega)
  obtain ⟨t', r', t1, r1, e1, e2, hcase⟩ := gJ k hk hj
  have ht' : t' = t := by rw [h43, nI_eq_iff] at e1; exact e1.symm
  have hr' : r' = r := by rw [h46, nI_eq_iff] at e2; exact e2.symm
  subst ht' hr'
  obtain ⟨z1, c37, c36⟩ : M.1 81 k = 1 ∧ M.1 37 r' = nI t' ∧ M.1 36 r' = 1 := by
    rcases hcase with ⟨q, -⟩ | ⟨q, -⟩ | ⟨q0, -, q1, q2⟩
    · exact absurd q h81
    · exact absurd q h81
    · exact ⟨q0, q1, q2⟩
  have ag : AG M (uI (uI M 43 k (-1)) 80 k 0) := ((AG.rf M).w _ rfl).w _ rfl
  have eg := gl_ag ag t' nA
  have eo : oS (uI (uI M 43 k (-1)) 80 k 0) t' nA = oS M t' nA := funext fun i => oS_ag ag t' nA i
  obtain ⟨n, hn⟩ : ∃ n, n = (gl M t' nA).length := ⟨_, rfl⟩
  obtain ⟨f, hf⟩ : ∃ f, f = oS M t' nA := ⟨_, rfl⟩
  have hn8 : n ≤ 8 := by rw [hn]; exact gl_len M t' nA
  have hos : ∀ i, i < n → f i < nA ∧ M.1 26 (f i) = nI t' ∧ M.1 30 (f i) = 0 := fun i hi => by rw [hf]; rw [hn] at hi; exact oS_lt hi
  have hinj : ∀ i j, i < n → j < n → f i = f j → i = j := fun i j hi hj e => by
    rw [hf] at e
    rw [hn] at hi hj
    exact oS_inj hi hj e
  obtain ⟨N, hN⟩ : ∃ N, N = beginsM (uI (uI M 43 k (-1)) 80 k 0) r' t' nA := ⟨_, rfl⟩
  have n2 : N.2 = M.2 := by rw [hN]; exact beginsM_2
  have hNs : N = setB (uI (uI (uI (uI (uI (uI (uI (uI M 43 k (-1)) 80 k 0) 36 r' 2) 37 r' (nI t')) 24 t' 2) 39 r' (nI n)) 40 r' 0) 41 r' 0) f r' n := by
    rw [hN, hn, hf]
    unfold beginsM
    rw [eg, eo]
  rw [← hN]
  clear hN eg eo ag hn hf
  have ne : ∀ b i, ¬ (b = 43 ∨ b = 80 ∨ b = 24 ∨ b = 30 ∨ (36 ≤ b ∧ b ≤ 41)) → N.1 b i = M.1 b i := fun b i q => by
    rw [hNs, setB_ne (by omega) (by omega), uI_1, if_neg (by omega), uI_1, if_neg (by omega), uI_1, if_neg (by omega), uI_1, if_neg (by omega), uI_1, if_neg (by omega), uI_1, if_neg (by omega), uI_1, if_neg (by omega), uI_1, if_neg (by omega)]
  have n43 : ∀ i, N.1 43 i = if i = k then -1 else M.1 43 i := fun i => by rw [hNs, setB_ne (by omega) (by omega)]; simp only [mI_wI, mJ_wI, mP_wI, mL_wI, mA_wI, mI_wJ, mJ_wJ, mP_wJ, mL_wJ, mA_wJ, uI_1, uI_2, uJ_1, uJ_2, Nat.reduceEqDiff, false_and, and_false, true_and, and_true, reduceIte]
  have n80 : ∀ i, N.1 80 i = if i = k then 0 else M.1 80 i := fun i => by rw [hNs, setB_ne (by omega) (by omega)]; simp only [mI_wI, mJ_wI, mP_wI, mL_wI, mA_wI, mI_wJ, mJ_wJ, mP_wJ, mL_wJ, mA_wJ, uI_1, uI_2, uJ_1, uJ_2, Nat.reduceEqDiff, false_and, and_false, true_and, and_true, reduceIte]
  have n24 : ∀ i, N.1 24 i = if i = t' then 2 else M.1 24 i := fun i => by rw [hNs, setB_ne (by omega) (by omega)]; simp only [mI_wI, mJ_wI, mP_wI, mL_wI, mA_wI, mI_wJ, mJ_wJ, mP_wJ, mL_wJ, mA_wJ, uI_1, uI_2, uJ_1, uJ_2, Nat.reduceEqDiff, false_and, and_false, true_and, and_true, reduceIte]
  have n36 : ∀ i, N.1 36 i = if i = r' then 2 else M.1 36 i := fun i => by rw [hNs, setB_ne (by omega) (by omega)]; simp only [mI_wI, mJ_wI, mP_wI, mL_wI, mA_wI, mI_wJ, mJ_wJ, mP_wJ, mL_wJ, mA_wJ, uI_1, uI_2, uJ_1, uJ_2, Nat.reduceEqDiff, false_and, and_false, true_and, and_true, reduceIte]
  have n37 : ∀ i, N.1 37 i = M.1 37 i := fun i => by
    rw [hNs, setB_ne (by omega) (by omega)]
    simp only [mI_wI, mJ_wI, mP_wI, mL_wI, mA_wI, mI_wJ, mJ_wJ, mP_wJ, mL_wJ, mA_wJ, uI_1, uI_2, uJ_1, uJ_2, Nat.reduceEqDiff, false_and, and_false, true_and, and_true, reduceIte]
    by_cases e : i = r'
    · rw [if_pos e, e, c37]
    · rw [if_neg e]
  have n39 : ∀ i, N.1 39 i = if i = r' then nI n else M.1 39 i := fun i => by rw [hNs, setB_ne (by omega) (by omega)]; simp only [mI_wI, mJ_wI, mP_wI, mL_wI, mA_wI, mI_wJ, mJ_wJ, mP_wJ, mL_wJ, mA_wJ, uI_1, uI_2, uJ_1, uJ_2, Nat.reduceEqDiff, false_and, and_false, true_and, and_true, reduceIte]
  have n40 : ∀ i, N.1 40 i = if i = r' then 0 else M.1 40 i := fun i => by rw [hNs, setB_ne (by omega) (by omega)]; simp only [mI_wI, mJ_wI, mP_wI, mL_wI, mA_wI, mI_wJ, mJ_wJ, mP_wJ, mL_wJ, mA_wJ, uI_1, uI_2, uJ_1, uJ_2, Nat.reduceEqDiff, false_and, and_false, true_and, and_true, reduceIte]
  have n41 : ∀ i, N.1 41 i = if i = r' then 0 else M.1 41 i := fun i => by rw [hNs, setB_ne (by omega) (by omega)]; simp only [mI_wI, mJ_wI, mP_wI, mL_wI, mA_wI, mI_wJ, mJ_wJ, mP_wJ, mL_wJ, mA_wJ, uI_1, uI_2, uJ_1, uJ_2, Nat.reduceEqDiff, false_and, and_false, true_and, and_true, reduceIte]
  have n38 : ∀ x, N.1 38 x = if 8 * r' ≤ x ∧ x < 8 * r' + n then nI (f (x - 8 * r')) else M.1 38 x := fun x => by rw [hNs, setB_38]; simp only [mI_wI, mJ_wI, mP_wI, mL_wI, mA_wI, mI_wJ, mJ_wJ, mP_wJ, mL_wJ, mA_wJ, uI_1, uI_2, uJ_1, uJ_2, Nat.reduceEqDiff, false_and, and_false, true_and, and_true, reduceIte]
  have n30 : ∀ a, (∀ i, i < n → ¬ f i = a) → N.1 30 a = M.1 30 a := fun a q => by rw [hNs, setB_30 n q]; simp only [mI_wI, mJ_wI, mP_wI, mL_wI, mA_wI, mI_wJ, mJ_wJ, mP_wJ, mL_wJ, mA_wJ, uI_1, uI_2, uJ_1, uJ_2, Nat.reduceEqDiff, false_and, and_false, true_and, and_true, reduceIte]
  have n30' : ∀ i, i < n → N.1 30 (f i) = 1 := fun i q => by rw [hNs]; exact setB_1 n i q rfl
  have nor : ∀ a, N.1 30 a = 1 ∨ N.1 30 a = M.1 30 a := fun a => by
    have := setB_or (M := uI (uI (uI (uI (uI (uI (uI (uI M 43 k (-1)) 80 k 0) 36 r' 2) 37 r' (nI t')) 24 t' 2) 39 r' (nI n)) 40 r' 0) 41 r' 0) (f := f) (k := r') (a := a) n
    rw [← hNs] at this
    exact this
  have nw : ∀ j, wkN N j = if j = r' then n else wkN M j := fun j => by
    unfold wkN
    rw [n39]
    by_cases e : j = r'
    · rw [if_pos e, if_pos e]
      exact ncl (N := 9) (by omega)
    · rw [if_neg e, if_neg e]
  have nl : ∀ j i, ¬ j = r' → i < 8 → wkL N j i = wkL M j i := fun j i e hi => by
    unfold wkL
    rw [n38, if_neg (by omega)]
  have nlr : ∀ i, i < n → wkL N r' i = f i := fun i hi => by
    unfold wkL
    rw [n38, if_pos (by omega), show 8 * r' + i - 8 * r' = i by omega]
    exact ncl (N := 151) (by have := (hos i hi).1; omega)
  have ek : ∀ f : Nat → Nat → Bool, (∀ b i, f b i = true → ¬ (b = 43 ∨ b = 80 ∨ b = 24 ∨ b = 30 ∨ (36 ≤ b ∧ b ≤ 41))) → EK f M N := fun f q b i y => ne b i (q b i y)
  refine ⟨gS.fr (ek kS (fun b i q => by simp only [kS, Bool.or_eq_true, Bool.and_eq_true, beq_iff_eq] at q; omega)), gA.fr (ek kS (fun b i q => by simp only [kS, Bool.or_eq_true, Bool.and_eq_true, beq_iff_eq] at q; omega)), gH.fr (ek kGH (fun b i q => by simp only [kGH, Bool.or_eq_true, Bool.and_eq_true, beq_iff_eq] at q; omega)), ?_, ?_, ?_, ?_, ?_, ?_, GSp.no hk (by rw [n43, if_pos rfl]), ?_⟩
  · intro j hj2
    obtain ⟨w1, w2, w3⟩ := gW j hj2
    rw [nw, n39]
    by_cases e : j = r'
    · subst e
      rw [if_pos rfl, if_pos rfl]
      refine ⟨rfl, hn8, fun i hi => ?_⟩
      rw [nlr i hi, n38, if_pos (by omega), show 8 * j + i - 8 * j = i by omega]
      exact ⟨rfl, (hos i hi).1⟩
    · rw [if_neg e, if_neg e]
      refine ⟨w1, w2, fun i hi => ?_⟩
      rw [nl j i e (by omega), n38, if_neg (by omega)]
      exact w3 i hi
  · intro i hi
    unfold rtN
    rw [n37, n36]
    by_cases e : i = r'
    · rw [if_pos e, e, c37]
      refine Or.inr ⟨?_, ?_, Or.inr (Or.inl rfl)⟩
      · rw [ncl (N := 13) (by omega)]
        exact ht
      · rw [ncl (N := 13) (by omega)]
    · rw [if_neg e]
      exact gR i hi
  · intro j hj2 q
    rw [n43] at q
    by_cases e : j = k
    · rw [if_pos e] at q
      exact absurd rfl q
    · rw [if_neg e] at q
      obtain rfl : j = 1 - k := by omega
      obtain ⟨s, u, s1, u1, s2, u2, hc⟩ := gJ _ hj2 q
      have hst : ¬ s = t' := fun w => ho (by rw [← w]; exact s2)
      have hur : M.1 37 u = nI s → ¬ u = r' := fun w y => hst (by rw [y, c37, nI_eq_iff] at w; exact w.symm)
      refine ⟨s, u, s1, u1, by rw [n43, if_neg e]; exact s2, by rw [ne 46 _ (by omega)]; exact u2, ?_⟩
      rw [ne 81 _ (by omega), n80, if_neg e, n37, n36]
      rcases hc with ⟨w1, w2, w3, w4⟩ | ⟨w1, w2, w3⟩ | ⟨w1, w2, w3, w4⟩
      · rw [if_neg (hur w3)]
        exact Or.inl ⟨w1, w2, w3, w4⟩
      · exact Or.inr (Or.inl ⟨w1, w2, fun i hi => by rw [n37]; exact w3 i hi⟩)
      · rw [if_neg (hur w3)]
        exact Or.inr (Or.inr ⟨w1, w2, w3, w4⟩)
  · refine ⟨fun i j => by rw [n37, n37]; exact gT.1 i j, fun q => ?_, fun i s hi hs y1 y2 => ?_⟩
    · rw [n43, n43] at q
      rw [n43]
      have hk2 : k = 0 ∨ k = 1 := by omega
      rcases hk2 with rfl | rfl
      · rfl
      · exact q
    · rw [n37] at y1
      rw [n24] at y2
      by_cases e : s = t'
      · rw [if_pos e] at y2
        exact absurd y2 (by decide)
      · rw [if_neg e] at y2
        have w := GT_w hk (gT.2.2 i s hi hs y1 y2) (fun z => e (by rw [h43, nI_eq_iff] at z; exact z.symm))
        exact GT_v (k := 1 - k) (by omega) (by rw [n43, if_neg (by omega)]; exact w)
  · intro j hj2
    obtain ⟨i1, i2, i3⟩ := gI j hj2
    rw [nw, n36, n37, n41]
    by_cases e : j = r'
    · subst e
      rw [if_pos rfl, if_pos rfl, if_pos rfl]
      refine ⟨fun w => absurd rfl w, fun _ => ⟨1, by omega, by decide⟩, fun i hi => ?_⟩
      rw [nlr i hi, ne 26 _ (by omega), n30' i hi, c37]
      refine ⟨(hos i hi).2.1, rfl, fun x hx y => ?_⟩
      rw [nlr x (by omega)] at y
      have := hinj x i (by omega) hi y
      omega
    · rw [if_neg e, if_neg e, if_neg e]
      have hw8 := (gW j hj2).2.1
      refine ⟨i1, i2, fun i hi => ?_⟩
      obtain ⟨v1, v2, v3⟩ := i3 i hi
      rw [nl j i e (by omega), ne 26 _ (by omega)]
      refine ⟨v1, ?_, fun x hx y => ?_⟩
      · rcases nor (wkL M j i) with q | q
        · exact q
        · rw [q]
          exact v2
      · rw [nl j x e (by omega)] at y
        exact v3 x hx y
  · intro a ha q
    rw [ne 31 a (by omega)]
    by_cases z : ∃ i, i < n ∧ f i = a
    · obtain ⟨i, hi, e⟩ := z
      exact gD a ha (Or.inl (by rw [← e]; exact (hos i hi).2.2))
    · rw [n30 a (fun i hi e => z ⟨i, hi, e⟩)] at q
      exact gD a ha q
  · obtain ⟨u1, u2, u3, u4⟩ := gU
    exact ⟨fun s hs => by rw [ne 23 s (by omega), n24, if_neg (by omega)]; exact u1 s hs, fun i hi => by rw [n2]; exact u2 i hi, fun i hi => by rw [n2]; exact u3 i hi, fun i hi => by rw [n39, n40, if_neg (by omega), if_neg (by omega)]; exact u4 i hi⟩
/-- step a -/
theorem GMI.mv (h : GMI M nT nR nA) (hT2 : nT ≤ 12) (hR2 : nR ≤ 3) (hA2 : nA ≤ 150) {k : Nat} (hk : k < 2) : GMI (mvM M nA k) nT nR nA := by
  unfold mvM
  by_cases hj : M.1 43 k = -1
  · rw [if_pos hj]
    exact h
  rw [if_neg hj]
  obtain ⟨t, r, t1, r1, e1, e2, hcase⟩ := h.2.2.2.2.2.1 k hk hj
  rw [e1, e2, ncl (N := 13) (by omega), ncl (N := 4) (by omega)]
  unfold movesM
  by_cases q : M.1 42 k = goalF M k
  · rw [if_pos q]
    by_cases y : M.1 80 k = 0
    · rw [if_pos y]
      exact h.take hT2 hR2 hk y t1 r1 e1 e2
    · rw [if_neg y]
      unfold putM
      by_cases z : M.1 81 k = 0
      · rw [if_pos z]
        exact h.home hT2 hR2 (r := r) hk y z t1 e1
      · rw [if_neg z]
        exact h.begins hT2 hR2 hA2 hk z t1 r1 e1 e2
  · rw [if_neg q]
    exact h.go hk hj q
end ZG2
