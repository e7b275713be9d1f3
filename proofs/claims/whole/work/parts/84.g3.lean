/-! A good model stays good: readers work, arms ask for jobs; what a tick keeps -/
section ZG3
variable {M : MD} {nT nR nA : Nat}
theorem GMI.over (h : GMI M nT nR nA) {k : Nat} (hk : k < nR) (h36 : M.1 36 k = 2) (hw : wkN M k = 0) : GMI (uI M 36 k 3) nT nR nA := by
  obtain ⟨gS, gA, gH, gW, gR, gJ, gT, gI, gD, gSp, gU⟩ := h
  obtain ⟨N, hN⟩ : ∃ N, N = uI M 36 k 3 := ⟨_, rfl⟩
  have ne : ∀ b i, ¬ b = 36 → N.1 b i = M.1 b i := fun b i q => by rw [hN, uI_1, if_neg (by omega)]
  have n36 : ∀ i, N.1 36 i = if i = k then 3 else M.1 36 i := fun i => by rw [hN]; simp only [mI_wI, mJ_wI, mP_wI, mL_wI, mA_wI, mI_wJ, mJ_wJ, mP_wJ, mL_wJ, mA_wJ, uI_1, uI_2, uJ_1, uJ_2, Nat.reduceEqDiff, false_and, and_false, true_and, and_true, reduceIte]
  have n2 : N.2 = M.2 := by rw [hN]; rfl
  have ek : ∀ f : Nat → Nat → Bool, (∀ b i, f b i = true → ¬ b = 36) → EK f M N := fun f q b i y => ne b i (q b i y)
  rw [← hN]
  refine ⟨gS.fr (ek kS (fun b i q => by simp only [kS, Bool.or_eq_true, Bool.and_eq_true, beq_iff_eq] at q; omega)), gA.fr (ek kS (fun b i q => by simp only [kS, Bool.or_eq_true, Bool.and_eq_true, beq_iff_eq] at q; omega)), gH.fr (ek kGH (fun b i q => by simp only [kGH, Bool.or_eq_true, Bool.and_eq_true, beq_iff_eq] at q; omega)), gW.fr (ek kGW (fun b i q => by simp only [kGW, Bool.or_eq_true, Bool.and_eq_true, beq_iff_eq] at q; omega)), ?_, ?_, gT.fr (ek kGT (fun b i q => by simp only [kGT, Bool.or_eq_true, Bool.and_eq_true, beq_iff_eq] at q; omega)), ?_, gD.fr (ek kGD (fun b i q => by simp only [kGD, Bool.or_eq_true, Bool.and_eq_true, beq_iff_eq] at q; omega)), gSp.fr (ek kGp (fun b i q => by simp only [kGp, Bool.or_eq_true, Bool.and_eq_true, beq_iff_eq] at q; omega)), gU.fr (ek kGU (fun b i q => by simp only [kGU, Bool.or_eq_true, Bool.and_eq_true, beq_iff_eq] at q; omega)) n2⟩
  · intro i hi
    unfold rtN
    rw [ne 37 i (by omega), n36]
    by_cases e : i = k
    · rw [if_pos e, e]
      rcases gR k hk with ⟨-, q⟩ | ⟨q1, q2, -⟩
      · rcases q with q | q <;> rw [q] at h36 <;> exact absurd h36 (by decide)
      · exact Or.inr ⟨q1, q2, Or.inr (Or.inr (Or.inl rfl))⟩
    · rw [if_neg e]
      exact gR i hi
  · intro j hj q
    rw [ne 43 j (by omega)] at q
    obtain ⟨s, u, s1, u1, s2, u2, hc⟩ := gJ j hj q
    refine ⟨s, u, s1, u1, by rw [ne 43 j (by omega)]; exact s2, by rw [ne 46 j (by omega)]; exact u2, ?_⟩
    rw [ne 81 j (by omega), ne 80 j (by omega), ne 37 u (by omega), n36]
    rcases hc with ⟨w1, w2, w3, w4⟩ | ⟨w1, w2, w3⟩ | ⟨w1, w2, w3, w4⟩
    · refine Or.inl ⟨w1, w2, w3, ?_⟩
      by_cases e : u = k
      · rw [if_pos e]
        exact Or.inl rfl
      · rw [if_neg e]
        exact w4
    · exact Or.inr (Or.inl ⟨w1, w2, fun i hi => by rw [ne 37 i (by omega)]; exact w3 i hi⟩)
    · refine Or.inr (Or.inr ⟨w1, w2, w3, ?_⟩)
      rw [if_neg (fun e => by rw [e, h36] at w4; exact absurd w4 (by decide))]
      exact w4
  · intro j hj
    obtain ⟨i1, i2, i3⟩ := gI j hj
    have ew : wkN N j = wkN M j := by unfold wkN; rw [ne 39 j (by omega)]
    have el : ∀ i, wkL N j i = wkL M j i := fun i => by unfold wkL; rw [ne 38 _ (by omega)]
    rw [ew, n36, ne 37 j (by omega), ne 41 j (by omega)]
    by_cases e : j = k
    · subst e
      rw [if_pos rfl, hw]
      exact ⟨fun _ => rfl, fun z => absurd z (by decide), fun i hi => by omega⟩
    · rw [if_neg e]
      refine ⟨i1, i2, fun i hi => ?_⟩
      simp only [el]
      rw [ne 26 _ (by omega), ne 30 _ (by omega)]
      exact i3 i hi
theorem GMI.wtick (h : GMI M nT nR nA) {k : Nat} (hk : k < nR) (x : Int32) : GMI (uI M 40 k x) nT nR nA := by
  obtain ⟨gS, gA, gH, gW, gR, gJ, gT, gI, gD, gSp, u1, u2, u3, u4⟩ := h
  have ne : ∀ b i, ¬ b = 40 → (uI M 40 k x).1 b i = M.1 b i := fun b i q => by rw [uI_1, if_neg (by omega)]
  have ek : ∀ f : Nat → Nat → Bool, (∀ b i, f b i = true → ¬ b = 40) → EK f M (uI M 40 k x) := fun f q b i y => ne b i (q b i y)
  refine ⟨gS.fr (ek kS (fun b i q => by simp only [kS, Bool.or_eq_true, Bool.and_eq_true, beq_iff_eq] at q; omega)), gA.fr (ek kS (fun b i q => by simp only [kS, Bool.or_eq_true, Bool.and_eq_true, beq_iff_eq] at q; omega)), gH.fr (ek kGH (fun b i q => by simp only [kGH, Bool.or_eq_true, Bool.and_eq_true, beq_iff_eq] at q; omega)), gW.fr (ek kGW (fun b i q => by simp only [kGW, Bool.or_eq_true, Bool.and_eq_true, beq_iff_eq] at q; omega)), gR.fr (ek kGR (fun b i q => by simp only [kGR, Bool.or_eq_true, Bool.and_eq_true, beq_iff_eq] at q; omega)), gJ.fr (ek kGJ (fun b i q => by simp only [kGJ, Bool.or_eq_true, Bool.and_eq_true, beq_iff_eq] at q; omega)), gT.fr (ek kGT (fun b i q => by simp only [kGT, Bool.or_eq_true, Bool.and_eq_true, beq_iff_eq] at q; omega)), gI.fr (ek kGI (fun b i q => by simp only [kGI, Bool.or_eq_true, Bool.and_eq_true, beq_iff_eq] at q; omega)), gD.fr (ek kGD (fun b i q => by simp only [kGD, Bool.or_eq_true, Bool.and_eq_true, beq_iff_eq] at q; omega)), gSp.fr (ek kGp (fun b i q => by simp only [kGp, Bool.or_eq_true, Bool.and_eq_true, beq_iff_eq] at q; omega)), u1, u2, u3, fun i hi => ?_⟩
  rw [uI_1, uI_1, if_neg (by omega), if_neg (by omega)]
  exact u4 i hi
theorem GMI.now (h : GMI M nT nR nA) (x : Int32) : GMI (uI M 7 9 x) nT nR nA := by
  obtain ⟨gS, gA, gH, gW, gR, gJ, gT, gI, gD, gSp, gU⟩ := h
  have ek : ∀ f : Nat → Nat → Bool, (∀ b i, f b i = true → ¬ (b = 7 ∧ i = 9)) → EK f M (uI M 7 9 x) := fun f q b i y => by rw [uI_1, if_neg (q b i y)]
  exact ⟨gS.fr (ek kS (fun b i q => by simp only [kS, Bool.or_eq_true, Bool.and_eq_true, beq_iff_eq] at q; omega)), gA.fr (ek kS (fun b i q => by simp only [kS, Bool.or_eq_true, Bool.and_eq_true, beq_iff_eq] at q; omega)), gH.fr (ek kGH (fun b i q => by simp only [kGH, Bool.or_eq_true, Bool.and_eq_true, beq_iff_eq] at q; omega)), gW.fr (ek kGW (fun b i q => by simp only [kGW, Bool.or_eq_true, Bool.and_eq_true, beq_iff_eq] at q; omega)), gR.fr (ek kGR (fun b i q => by simp only [kGR, Bool.or_eq_true, Bool.and_eq_true, beq_iff_eq] at q; omega)), gJ.fr (ek kGJ (fun b i q => by simp only [kGJ, Bool.or_eq_true, Bool.and_eq_true, beq_iff_eq] at q; omega)), gT.fr (ek kGT (fun b i q => by simp only [kGT, Bool.or_eq_true, Bool.and_eq_true, beq_iff_eq] at q; omega)), gI.fr (ek kGI (fun b i q => by simp only [kGI, Bool.or_eq_true, Bool.and_eq_true, beq_iff_eq] at q; omega)), gD.fr (ek kGD (fun b i q => by simp only [kGD, Bool.or_eq_true, Bool.and_eq_true, beq_iff_eq] at q; omega)), gSp.fr (ek kGp (fun b i q => by simp only [kGp, Bool.or_eq_true, Bool.and_eq_true, beq_iff_eq] at q; omega)), gU.fr (ek kGU (fun b i q => by simp only [kGU, Bool.or_eq_true, Bool.and_eq_true, beq_iff_eq] at q; omega)) rfl⟩
theorem GMI.end_ (h : GMI M nT nR nA) (hT2 : nT ≤ 12) (hR2 : nR ≤ 3) {k n t : Nat} (hk : k < nR) (h36 : M.1 36 k = 2) (ht : t < nT) (h37 : M.1 37 k = nI t) (hw : wkN M k = n + 1) : GMI (endM M k (wkL M k 0) t n) nT nR nA := by
  obtain ⟨gS, gA, gH, gW, gR, gJ, gT, gI, gD, gSp, gU⟩ := h
  obtain ⟨i1, i2, i3⟩ := gI k hk
  obtain ⟨w1, w2, w3⟩ := gW k hk
  obtain ⟨a, ha⟩ : ∃ a, a = wkL M k 0 := ⟨_, rfl⟩
  obtain ⟨v1, v2⟩ := w3 0 (by omega)
  obtain ⟨s1, s2, -⟩ := i3 0 (by omega)
  rw [← ha] at v1 v2 s1 s2 ⊢
  obtain ⟨t', p, b1', b2', b3', b4', b5', b6', b7', b8'⟩ := gA a v2
  have htt : t' = t := by
    rw [s1, h37, nI_eq_iff] at b2'
    exact b2'.symm
  subst htt
  obtain ⟨N, hN⟩ : ∃ N, N = endM M k a t' n := ⟨_, rfl⟩
  have ne : ∀ b i, ¬ (b = 23 ∨ b = 30 ∨ b = 31 ∨ b = 36 ∨ b = 38 ∨ b = 39 ∨ b = 40 ∨ b = 41) → N.1 b i = M.1 b i := fun b i q => by rw [hN]; exact endM_ne q i
  have ek : ∀ f : Nat → Nat → Bool, (∀ b i, f b i = true → ¬ (b = 23 ∨ b = 30 ∨ b = 31 ∨ b = 36 ∨ b = 38 ∨ b = 39 ∨ b = 40 ∨ b = 41)) → EK f M N := fun f q b i y => ne b i (q b i y)
  have n23 : ∀ i, N.1 23 i = if i = t' then toF M a else M.1 23 i := fun i => by rw [hN]; exact endM_23 i
  have n30 : ∀ i, N.1 30 i = if i = a then (if M.1 21 t' = 4 then 3 else 2) else M.1 30 i := fun i => by rw [hN]; exact endM_30 i
  have n31 : ∀ i, N.1 31 i = if i = a then M.1 7 9 else M.1 31 i := fun i => by rw [hN]; exact endM_31 i
  have n36 : ∀ i, N.1 36 i = if n = 0 ∧ i = k then 3 else M.1 36 i := fun i => by rw [hN]; exact endM_36 i
  have n38 : ∀ x, N.1 38 x = if 8 * k ≤ x ∧ x < 8 * k + n then M.1 38 (x + 1) else M.1 38 x := fun x => by rw [hN]; exact endM_38
  have n39 : ∀ i, N.1 39 i = if i = k then nI n else M.1 39 i := fun i => by rw [hN]; exact endM_39 i
  have n40 : ∀ i, N.1 40 i = if i = k then 0 else M.1 40 i := fun i => by rw [hN]; exact endM_40 i
  have n41 : ∀ i, N.1 41 i = if i = k then wayF (fromF M a) (toF M a) (M.1 23 t') (M.1 41 k) else M.1 41 i := fun i => by rw [hN]; exact endM_41 i
  have nw : ∀ j, wkN N j = if j = k then n else wkN M j := fun j => by rw [hN]; exact endM_wkN (by omega) j
  have nl : ∀ j i, ¬ j = k → i < 8 → wkL N j i = wkL M j i := fun j i e hi => by
    unfold wkL
    rw [n38, if_neg (by omega)]
  have nlk : ∀ i, i < n → wkL N k i = wkL M k (i + 1) := fun i hi => by
    unfold wkL
    rw [n38, if_pos (by omega), Nat.add_assoc]
  have na : ∀ b, ¬ b = a → N.1 30 b = M.1 30 b := fun b q => by rw [n30, if_neg q]
  rw [← hN]
  refine ⟨gS.fr (ek kS (fun b i q => by simp only [kS, Bool.or_eq_true, Bool.and_eq_true, beq_iff_eq] at q; omega)), gA.fr (ek kS (fun b i q => by simp only [kS, Bool.or_eq_true, Bool.and_eq_true, beq_iff_eq] at q; omega)), ?_, ?_, ?_, ?_, gT.fr (ek kGT (fun b i q => by simp only [kGT, Bool.or_eq_true, Bool.and_eq_true, beq_iff_eq] at q; omega)), ?_, ?_, gSp.fr (ek kGp (fun b i q => by simp only [kGp, Bool.or_eq_true, Bool.and_eq_true, beq_iff_eq] at q; omega)), ?_⟩
  · intro s hs
    unfold hdN
    rw [n23]
    by_cases e : s = t'
    · rw [if_pos e, b4', ncl (N := 60) (by omega)]
      exact ⟨rfl, by omega⟩
    · rw [if_neg e]
      exact gH s hs
  · intro j hj
    obtain ⟨x1, x2, x3⟩ := gW j hj
    rw [nw, n39]
    by_cases e : j = k
    · subst e
      rw [if_pos rfl, if_pos rfl]
      refine ⟨rfl, by omega, fun i hi => ?_⟩
      rw [nlk i hi, n38, if_pos (by omega), Nat.add_assoc]
      exact x3 (i + 1) (by omega)
    · rw [if_neg e, if_neg e]
      refine ⟨x1, x2, fun i hi => ?_⟩
      rw [nl j i e (by omega), n38, if_neg (by omega)]
      exact x3 i hi
  · intro i hi
    unfold rtN
    rw [ne 37 i (by omega), n36]
    by_cases e : n = 0 ∧ i = k
    · rw [if_pos e, e.2]
      rcases gR k hk with ⟨-, q⟩ | ⟨q1, q2, -⟩
      · rcases q with q | q <;> rw [q] at h36 <;> exact absurd h36 (by decide)
      · exact Or.inr ⟨q1, q2, Or.inr (Or.inr (Or.inl rfl))⟩
    · rw [if_neg e]
      exact gR i hi
  · intro j hj q
    rw [ne 43 j (by omega)] at q
    obtain ⟨s, u, y1, u1, y2, u2, hc⟩ := gJ j hj q
    refine ⟨s, u, y1, u1, by rw [ne 43 j (by omega)]; exact y2, by rw [ne 46 j (by omega)]; exact u2, ?_⟩
    rw [ne 81 j (by omega), ne 80 j (by omega), ne 37 u (by omega), n36]
    rcases hc with ⟨w1, w2, w3, w4⟩ | ⟨w1, w2, w3⟩ | ⟨w1, w2, w3, w4⟩
    · refine Or.inl ⟨w1, w2, w3, ?_⟩
      by_cases e : n = 0 ∧ u = k
      · rw [if_pos e]
        exact Or.inl rfl
      · rw [if_neg e]
        exact w4
    · exact Or.inr (Or.inl ⟨w1, w2, fun i hi => by rw [ne 37 i (by omega)]; exact w3 i hi⟩)
    · refine Or.inr (Or.inr ⟨w1, w2, w3, ?_⟩)
      rw [if_neg (fun e => by rw [e.2, h36] at w4; exact absurd w4 (by decide))]
      exact w4
  · intro j hj
    obtain ⟨x1, x2, x3⟩ := gI j hj
    rw [nw, n36, ne 37 j (by omega), n41]
    by_cases e : j = k
    · subst e
      rw [if_pos rfl, if_pos rfl]
      refine ⟨fun q => ?_, fun _ => ?_, fun i hi => ?_⟩
      · by_cases z : n = 0
        · exact z
        · rw [if_neg (fun y => z y.1)] at q
          exact absurd h36 q
      · obtain ⟨v, hv1, hv2⟩ := x2 h36
        obtain ⟨hh1, hh2⟩ := gH t' ht
        rw [b3', b4', hh1, hv2, wayF_N (by omega) (by omega) hh2 hv1]
        exact ⟨_, wyN_lt hv1, rfl⟩
      · obtain ⟨y1, y2, y3⟩ := x3 (i + 1) (by omega)
        rw [nlk i hi, ne 26 _ (by omega), na _ (fun z => y3 0 (by omega) (by rw [← ha]; exact z.symm))]
        refine ⟨y1, y2, fun x hx z => ?_⟩
        rw [nlk x (by omega)] at z
        exact y3 (x + 1) (by omega) z
    · rw [if_neg e, if_neg e, if_neg (fun z => e z.2)]
      have hw8 := (gW j hj).2.1
      refine ⟨x1, x2, fun i hi => ?_⟩
      obtain ⟨y1, y2, y3⟩ := x3 i hi
      rw [nl j i e (by omega), ne 26 _ (by omega), na _ (fun z => ?_)]
      · refine ⟨y1, y2, fun x hx z => ?_⟩
        rw [nl j x e (by omega)] at z
        exact y3 x hx z
      · rw [z, s1] at y1
        have := gT.1 k j hk hj (fun q => e q.symm) y1
        rw [h37] at this
        exact nI_m1 (by omega) this
  · intro b hb q
    rw [n31]
    by_cases e : b = a
    · rw [n30, if_pos e] at q
      exfalso
      by_cases z : M.1 21 t' = 4
      · rw [if_pos z] at q
        rcases q with q | q <;> exact absurd q (by decide)
      · rw [if_neg z] at q
        rcases q with q | q <;> exact absurd q (by decide)
    · rw [if_neg e]
      rw [na b e] at q
      exact gD b hb q
  · obtain ⟨u1, u2, u3, u4⟩ := gU
    have n2 : ∀ b i, ¬ (b = 91 ∧ i = 60 * t' + frN M a) → ¬ (b = 92 ∧ i = a) → N.2 b i = M.2 b i := fun b i q1 q2 => by
      rw [hN, endM_2]
      unfold endR
      split
      · rw [uJ_2, if_neg q2]
        rfl
      · split
        · rw [uJ_2, if_neg q2, uJ_2, if_neg q1]
          rfl
        · rw [uJ_2, if_neg q2]
          rfl
    exact ⟨fun s hs => by rw [n23, if_neg (by omega), ne 24 s (by omega)]; exact u1 s hs, fun i hi => by rw [n2 91 i (by omega) (by omega)]; exact u2 i hi, fun i hi => by rw [n2 92 i (by omega) (by omega)]; exact u3 i hi, fun i hi => by rw [n39, n40, if_neg (by omega), if_neg (by omega)]; exact u4 i hi⟩
/-- step b -/
theorem GMI.wk (h : GMI M nT nR nA) (hT2 : nT ≤ 12) (hR2 : nR ≤ 3) {k : Nat} (hk : k < nR) : GMI (wkM M k) nT nR nA := by
  unfold wkM
  by_cases h36 : M.1 36 k = 2
  · rw [if_pos h36]
    by_cases hw : wkN M k = 0
    · rw [if_pos hw]
      exact h.over hk h36 hw
    · rw [if_neg hw]
      split
      · obtain ⟨t, ht, h37, hrt⟩ : ∃ t, t < nT ∧ M.1 37 k = nI t ∧ rtN M k = t := by
          rcases h.2.2.2.2.1 k hk with ⟨-, q⟩ | ⟨q1, q2, -⟩
          · rcases q with q | q <;> rw [q] at h36 <;> exact absurd h36 (by decide)
          · exact ⟨_, q1, q2, rfl⟩
        rw [hrt]
        exact h.end_ hT2 hR2 hk h36 ht h37 (by omega)
      · exact h.wtick hk _
  · rw [if_neg h36]
    exact h
/-! an arm with a new job -/
theorem GMI.back (h : GMI M nT nR nA) (hT2 : nT ≤ 12) (hR2 : nR ≤ 3) {k i : Nat} (hk : k < 2) (h43 : M.1 43 k = -1) (hi : i < nR) (hb : backP M k i) : GMI (jobM M k (M.1 37 i) (M.1 35 i) (M.1 20 (rtN M i)) (nI i) 0) nT nR nA := by
  obtain ⟨gS, gA, gH, gW, gR, gJ, gT, gI, gD, gSp, gU⟩ := h
  obtain ⟨ht, h37⟩ := GR_bk gR hi hb.1
  obtain ⟨t, et⟩ : ∃ t, t = rtN M i := ⟨_, rfl⟩
  rw [← et] at ht h37 ⊢
  have hmay := hb.2.2
  rw [← et] at hmay
  have hno : ∀ j, j < 2 → ¬ M.1 43 j = nI t := fun j hj z => by
    have hk2 : j = 0 ∨ j = 1 := by omega
    rcases hk2 with rfl | rfl
    · exact hb.2.1 (Or.inl (by rw [h37]; exact z))
    · exact hb.2.1 (Or.inr (by rw [h37]; exact z))
  obtain ⟨N, hN⟩ : ∃ N, N = jobM M k (M.1 37 i) (M.1 35 i) (M.1 20 t) (nI i) 0 := ⟨_, rfl⟩
  have ne : ∀ b x, ¬ ((b = 43 ∨ b = 80 ∨ b = 44 ∨ b = 45 ∨ b = 46 ∨ b = 81) ∧ x = k) → N.1 b x = M.1 b x := fun b x q => by
    rw [hN]
    unfold jobM
    rw [uI_1, if_neg (by omega), uI_1, if_neg (by omega), uI_1, if_neg (by omega), uI_1, if_neg (by omega), uI_1, if_neg (by omega), uI_1, if_neg (by omega)]
  have k43 : N.1 43 k = nI t := by rw [hN, h37]; unfold jobM; simp only [mI_wI, mJ_wI, mP_wI, mL_wI, mA_wI, mI_wJ, mJ_wJ, mP_wJ, mL_wJ, mA_wJ, uI_1, uI_2, uJ_1, uJ_2, Nat.reduceEqDiff, false_and, and_false, true_and, and_true, reduceIte]
  have k80 : N.1 80 k = 0 := by rw [hN]; unfold jobM; simp only [mI_wI, mJ_wI, mP_wI, mL_wI, mA_wI, mI_wJ, mJ_wJ, mP_wJ, mL_wJ, mA_wJ, uI_1, uI_2, uJ_1, uJ_2, Nat.reduceEqDiff, false_and, and_false, true_and, and_true, reduceIte]
  have k44 : N.1 44 k = M.1 35 i := by rw [hN]; unfold jobM; simp only [mI_wI, mJ_wI, mP_wI, mL_wI, mA_wI, mI_wJ, mJ_wJ, mP_wJ, mL_wJ, mA_wJ, uI_1, uI_2, uJ_1, uJ_2, Nat.reduceEqDiff, false_and, and_false, true_and, and_true, reduceIte]
  have k45 : N.1 45 k = M.1 20 t := by rw [hN]; unfold jobM; simp only [mI_wI, mJ_wI, mP_wI, mL_wI, mA_wI, mI_wJ, mJ_wJ, mP_wJ, mL_wJ, mA_wJ, uI_1, uI_2, uJ_1, uJ_2, Nat.reduceEqDiff, false_and, and_false, true_and, and_true, reduceIte]
  have k46 : N.1 46 k = nI i := by rw [hN]; unfold jobM; simp only [mI_wI, mJ_wI, mP_wI, mL_wI, mA_wI, mI_wJ, mJ_wJ, mP_wJ, mL_wJ, mA_wJ, uI_1, uI_2, uJ_1, uJ_2, Nat.reduceEqDiff, false_and, and_false, true_and, and_true, reduceIte]
  have k81 : N.1 81 k = 0 := by rw [hN]; unfold jobM; simp only [mI_wI, mJ_wI, mP_wI, mL_wI, mA_wI, mI_wJ, mJ_wJ, mP_wJ, mL_wJ, mA_wJ, uI_1, uI_2, uJ_1, uJ_2, Nat.reduceEqDiff, false_and, and_false, true_and, and_true, reduceIte]
  have n2 : N.2 = M.2 := by rw [hN]; rfl
  have ek : ∀ f : Nat → Nat → Bool, (∀ b x, f b x = true → ¬ (b = 43 ∨ b = 80 ∨ b = 44 ∨ b = 45 ∨ b = 46 ∨ b = 81)) → EK f M N := fun f q b x y => ne b x (fun z => q b x y z.1)
  rw [← hN]
  refine ⟨gS.fr (ek kS (fun b i q => by simp only [kS, Bool.or_eq_true, Bool.and_eq_true, beq_iff_eq] at q; omega)), gA.fr (ek kS (fun b i q => by simp only [kS, Bool.or_eq_true, Bool.and_eq_true, beq_iff_eq] at q; omega)), gH.fr (ek kGH (fun b i q => by simp only [kGH, Bool.or_eq_true, Bool.and_eq_true, beq_iff_eq] at q; omega)), gW.fr (ek kGW (fun b i q => by simp only [kGW, Bool.or_eq_true, Bool.and_eq_true, beq_iff_eq] at q; omega)), gR.fr (ek kGR (fun b i q => by simp only [kGR, Bool.or_eq_true, Bool.and_eq_true, beq_iff_eq] at q; omega)), ?_, ?_, gI.fr (ek kGI (fun b i q => by simp only [kGI, Bool.or_eq_true, Bool.and_eq_true, beq_iff_eq] at q; omega)), gD.fr (ek kGD (fun b i q => by simp only [kGD, Bool.or_eq_true, Bool.and_eq_true, beq_iff_eq] at q; omega)), ?_, gU.fr (ek kGU (fun b i q => by simp only [kGU, Bool.or_eq_true, Bool.and_eq_true, beq_iff_eq] at q; omega)) n2⟩
  · intro j hj q
    by_cases e : j = k
    · subst e
      refine ⟨t, i, ht, hi, k43, k46, Or.inl ⟨k81, k80, by rw [ne 37 i (by omega)]; exact h37, ?_⟩⟩
      rw [ne 36 i (by omega)]
      rcases hb.1 with z | z
      · exact Or.inl z
      · exact Or.inr z.1
    · rw [ne 43 j (by omega)] at q
      obtain ⟨s, u, y1, u1, y2, u2, hc⟩ := gJ j hj q
      refine ⟨s, u, y1, u1, by rw [ne 43 j (by omega)]; exact y2, by rw [ne 46 j (by omega)]; exact u2, ?_⟩
      rw [ne 81 j (by omega), ne 80 j (by omega), ne 37 u (by omega), ne 36 u (by omega)]
      rcases hc with w | ⟨w1, w2, w3⟩ | w
      · exact Or.inl w
      · exact Or.inr (Or.inl ⟨w1, w2, fun x hx => by rw [ne 37 x (by omega)]; exact w3 x hx⟩)
      · exact Or.inr (Or.inr w)
  · refine ⟨fun a b => by rw [ne 37 a (by omega), ne 37 b (by omega)]; exact gT.1 a b, fun q => ?_, fun a s ha hs y1 y2 => ?_⟩
    · exfalso
      have hk2 : k = 0 ∨ k = 1 := by omega
      rcases hk2 with rfl | rfl
      · rw [k43, ne 43 1 (by omega)] at q
        exact hno 1 (by omega) q.symm
      · rw [k43, ne 43 0 (by omega)] at q
        exact hno 0 (by omega) q
    · rw [ne 37 a (by omega)] at y1
      rw [ne 24 s (by omega)] at y2
      have w := GT_w hk (gT.2.2 a s ha hs y1 y2) (fun z => nI_m1 (i := s) (by omega) (by rw [← z]; exact h43))
      exact GT_v (k := 1 - k) (by omega) (by rw [ne 43 _ (by omega)]; exact w)
  · intro z0 z1
    have hk2 : k = 0 ∨ k = 1 := by omega
    rcases hk2 with rfl | rfl
    · have eg : goalF N 0 = M.1 35 i := by unfold goalF; rw [k80, if_pos rfl, k44]
      have eg1 : goalF N 1 = goalF M 1 := by unfold goalF; rw [ne 80 1 (by omega), ne 44 1 (by omega), ne 45 1 (by omega)]
      rw [eg, eg1, k45, ne 42 0 (by omega), ne 42 1 (by omega), ne 45 1 (by omega)]
      rw [ne 43 1 (by omega)] at z1
      rcases hmay with y | y
      · exact absurd y z1
      · rw [if_pos rfl] at y
        exact y
    · have eg : goalF N 1 = M.1 35 i := by unfold goalF; rw [k80, if_pos rfl, k44]
      have eg1 : goalF N 0 = goalF M 0 := by unfold goalF; rw [ne 80 0 (by omega), ne 44 0 (by omega), ne 45 0 (by omega)]
      rw [eg, eg1, k45, ne 42 0 (by omega), ne 42 1 (by omega), ne 45 0 (by omega)]
      rw [ne 43 0 (by omega)] at z0
      rcases hmay with y | y
      · exact absurd y z0
      · rw [if_neg (by decide)] at y
        exact y
theorem GMI.bring (h : GMI M nT nR nA) (hT2 : nT ≤ 12) (hR2 : nR ≤ 3) {k t r : Nat} (hk : k < 2) (h43 : M.1 43 k = -1) (hr : r < nR) (h36 : M.1 36 r = 0) (ht : t < nT) (hm : hmP M t) (hmay : mayF M k (M.1 20 t) (M.1 35 r)) : GMI (brM M k t r) nT nR nA := by
  obtain ⟨gS, gA, gH, gW, gR, gJ, gT, gI, gD, gSp, gU⟩ := h
  have hno : ∀ j, j < 2 → ¬ M.1 43 j = nI t := fun j hj z => by
    have hk2 : j = 0 ∨ j = 1 := by omega
    rcases hk2 with rfl | rfl
    · exact hm.2 (Or.inl z)
    · exact hm.2 (Or.inr z)
  have hm1 : ∀ s, s < 13 → ¬ nI s = -1 := fun s hs => nI_m1 (by omega)
  have hn37 : ∀ j, j < nR → ¬ M.1 37 j = nI t := fun j hj z => hm.2 (gT.2.2 j t hj ht z hm.1)
  obtain ⟨N, hN⟩ : ∃ N, N = brM M k t r := ⟨_, rfl⟩
  have ne : ∀ b x, ¬ ((b = 43 ∨ b = 80 ∨ b = 44 ∨ b = 45 ∨ b = 46 ∨ b = 81) ∧ x = k) → ¬ ((b = 36 ∨ b = 37) ∧ x = r) → N.1 b x = M.1 b x := fun b x q q2 => by
    rw [hN]
    unfold brM jobM
    rw [uI_1, if_neg (by omega), uI_1, if_neg (by omega), uI_1, if_neg (by omega), uI_1, if_neg (by omega), uI_1, if_neg (by omega), uI_1, if_neg (by omega), uI_1, if_neg (by omega), uI_1, if_neg (by omega)]
  have k43 : N.1 43 k = nI t := by rw [hN]; unfold brM jobM; simp only [mI_wI, mJ_wI, mP_wI, mL_wI, mA_wI, mI_wJ, mJ_wJ, mP_wJ, mL_wJ, mA_wJ, uI_1, uI_2, uJ_1, uJ_2, Nat.reduceEqDiff, false_and, and_false, true_and, and_true, reduceIte]
  have k80 : N.1 80 k = 0 := by rw [hN]; unfold brM jobM; simp only [mI_wI, mJ_wI, mP_wI, mL_wI, mA_wI, mI_wJ, mJ_wJ, mP_wJ, mL_wJ, mA_wJ, uI_1, uI_2, uJ_1, uJ_2, Nat.reduceEqDiff, false_and, and_false, true_and, and_true, reduceIte]
  have k44 : N.1 44 k = M.1 20 t := by rw [hN]; unfold brM jobM; simp only [mI_wI, mJ_wI, mP_wI, mL_wI, mA_wI, mI_wJ, mJ_wJ, mP_wJ, mL_wJ, mA_wJ, uI_1, uI_2, uJ_1, uJ_2, Nat.reduceEqDiff, false_and, and_false, true_and, and_true, reduceIte]
  have k45 : N.1 45 k = M.1 35 r := by rw [hN]; unfold brM jobM; simp only [mI_wI, mJ_wI, mP_wI, mL_wI, mA_wI, mI_wJ, mJ_wJ, mP_wJ, mL_wJ, mA_wJ, uI_1, uI_2, uJ_1, uJ_2, Nat.reduceEqDiff, false_and, and_false, true_and, and_true, reduceIte]
  have k46 : N.1 46 k = nI r := by rw [hN]; unfold brM jobM; simp only [mI_wI, mJ_wI, mP_wI, mL_wI, mA_wI, mI_wJ, mJ_wJ, mP_wJ, mL_wJ, mA_wJ, uI_1, uI_2, uJ_1, uJ_2, Nat.reduceEqDiff, false_and, and_false, true_and, and_true, reduceIte]
  have k81 : N.1 81 k = 1 := by rw [hN]; unfold brM jobM; simp only [mI_wI, mJ_wI, mP_wI, mL_wI, mA_wI, mI_wJ, mJ_wJ, mP_wJ, mL_wJ, mA_wJ, uI_1, uI_2, uJ_1, uJ_2, Nat.reduceEqDiff, false_and, and_false, true_and, and_true, reduceIte]
  have r36 : N.1 36 r = 1 := by rw [hN]; unfold brM jobM; simp only [mI_wI, mJ_wI, mP_wI, mL_wI, mA_wI, mI_wJ, mJ_wJ, mP_wJ, mL_wJ, mA_wJ, uI_1, uI_2, uJ_1, uJ_2, Nat.reduceEqDiff, false_and, and_false, true_and, and_true, reduceIte]
  have r37 : N.1 37 r = nI t := by rw [hN]; unfold brM jobM; simp only [mI_wI, mJ_wI, mP_wI, mL_wI, mA_wI, mI_wJ, mJ_wJ, mP_wJ, mL_wJ, mA_wJ, uI_1, uI_2, uJ_1, uJ_2, Nat.reduceEqDiff, false_and, and_false, true_and, and_true, reduceIte]
  have n2 : N.2 = M.2 := by rw [hN]; rfl
  have ek : ∀ f : Nat → Nat → Bool, (∀ b x, f b x = true → ¬ (b = 43 ∨ b = 80 ∨ b = 44 ∨ b = 45 ∨ b = 46 ∨ b = 81 ∨ b = 36 ∨ b = 37)) → EK f M N := fun f q b x y => ne b x (fun z => q b x y (by omega)) (fun z => q b x y (by omega))
  rw [← hN]
  refine ⟨gS.fr (ek kS (fun b i q => by simp only [kS, Bool.or_eq_true, Bool.and_eq_true, beq_iff_eq] at q; omega)), gA.fr (ek kS (fun b i q => by simp only [kS, Bool.or_eq_true, Bool.and_eq_true, beq_iff_eq] at q; omega)), gH.fr (ek kGH (fun b i q => by simp only [kGH, Bool.or_eq_true, Bool.and_eq_true, beq_iff_eq] at q; omega)), gW.fr (ek kGW (fun b i q => by simp only [kGW, Bool.or_eq_true, Bool.and_eq_true, beq_iff_eq] at q; omega)), ?_, ?_, ?_, ?_, gD.fr (ek kGD (fun b i q => by simp only [kGD, Bool.or_eq_true, Bool.and_eq_true, beq_iff_eq] at q; omega)), ?_, gU.fr (ek kGU (fun b i q => by simp only [kGU, Bool.or_eq_true, Bool.and_eq_true, beq_iff_eq] at q; omega)) n2⟩
  · intro i hi
    unfold rtN
    by_cases e : i = r
    · subst e
      rw [r36, r37, ncl (N := 13) (by omega)]
      exact Or.inr ⟨ht, rfl, Or.inl rfl⟩
    · rw [ne 36 i (by omega) (by omega), ne 37 i (by omega) (by omega)]
      exact gR i hi
  · intro j hj q
    by_cases e : j = k
    · subst e
      exact ⟨t, r, ht, hr, k43, k46, Or.inr (Or.inr ⟨k81, Or.inl k80, r37, r36⟩)⟩
    · rw [ne 43 j (by omega) (by omega)] at q
      obtain ⟨s, u, y1, u1, y2, u2, hc⟩ := gJ j hj q
      refine ⟨s, u, y1, u1, by rw [ne 43 j (by omega) (by omega)]; exact y2, by rw [ne 46 j (by omega) (by omega)]; exact u2, ?_⟩
      rw [ne 81 j (by omega) (by omega), ne 80 j (by omega) (by omega)]
      rcases hc with ⟨w1, w2, w3, w4⟩ | ⟨w1, w2, w3⟩ | ⟨w1, w2, w3, w4⟩
      · have hur : ¬ u = r := fun z => by rw [z, h36] at w4; rcases w4 with w4 | w4 <;> exact absurd w4 (by decide)
        rw [ne 37 u (by omega) (by omega), ne 36 u (by omega) (by omega)]
        exact Or.inl ⟨w1, w2, w3, w4⟩
      · refine Or.inr (Or.inl ⟨w1, w2, fun x hx z => ?_⟩)
        by_cases e2 : x = r
        · rw [e2, r37] at z
          exact hno j hj (by rw [y2]; exact z.symm)
        · rw [ne 37 x (by omega) (by omega)] at z
          exact w3 x hx z
      · have hur : ¬ u = r := fun z => by rw [z, h36] at w4; exact absurd w4 (by decide)
        rw [ne 37 u (by omega) (by omega), ne 36 u (by omega) (by omega)]
        exact Or.inr (Or.inr ⟨w1, w2, w3, w4⟩)
  · refine ⟨fun a b ha hb hab y => ?_, fun q => ?_, fun a s ha hs y1 y2 => ?_⟩
    · by_cases e : a = r
      · rw [e, r37, ne 37 b (by omega) (by omega)] at y
        exact absurd y.symm (hn37 b hb)
      · rw [ne 37 a (by omega) (by omega)] at y ⊢
        by_cases e2 : b = r
        · rw [e2, r37] at y
          exact absurd y (hn37 a ha)
        · rw [ne 37 b (by omega) (by omega)] at y
          exact gT.1 a b ha hb hab y
    · exfalso
      have hk2 : k = 0 ∨ k = 1 := by omega
      rcases hk2 with rfl | rfl
      · rw [k43, ne 43 1 (by omega) (by omega)] at q
        exact hno 1 (by omega) q.symm
      · rw [k43, ne 43 0 (by omega) (by omega)] at q
        exact hno 0 (by omega) q
    · by_cases e : a = r
      · rw [e, r37, nI_eq_iff] at y1
        rw [← y1]
        exact GT_v hk k43
      · rw [ne 37 a (by omega) (by omega)] at y1
        rw [ne 24 s (by omega) (by omega)] at y2
        have w := GT_w hk (gT.2.2 a s ha hs y1 y2) (fun z => nI_m1 (i := s) (by omega) (by rw [← z]; exact h43))
        exact GT_v (k := 1 - k) (by omega) (by rw [ne 43 _ (by omega) (by omega)]; exact w)
  · intro j hj
    obtain ⟨i1, i2, i3⟩ := gI j hj
    have ew : wkN N j = wkN M j := by unfold wkN; rw [ne 39 j (by omega) (by omega)]
    have el : ∀ i, wkL N j i = wkL M j i := fun i => by unfold wkL; rw [ne 38 _ (by omega) (by omega)]
    rw [ew]
    by_cases e : j = r
    · subst e
      have hz := i1 (by rw [h36]; decide)
      rw [r36, hz]
      exact ⟨fun _ => rfl, fun z => absurd z (by decide), fun i hi => by omega⟩
    · rw [ne 36 j (by omega) (by omega), ne 37 j (by omega) (by omega), ne 41 j (by omega) (by omega)]
      refine ⟨i1, i2, fun i hi => ?_⟩
      simp only [el]
      rw [ne 26 _ (by omega) (by omega), ne 30 _ (by omega) (by omega)]
      exact i3 i hi
  · intro z0 z1
    have hk2 : k = 0 ∨ k = 1 := by omega
    rcases hk2 with rfl | rfl
    · have eg : goalF N 0 = M.1 20 t := by unfold goalF; rw [k80, if_pos rfl, k44]
      have eg1 : goalF N 1 = goalF M 1 := by unfold goalF; rw [ne 80 1 (by omega) (by omega), ne 44 1 (by omega) (by omega), ne 45 1 (by omega) (by omega)]
      rw [eg, eg1, k45, ne 42 0 (by omega) (by omega), ne 42 1 (by omega) (by omega), ne 45 1 (by omega) (by omega)]
      rw [ne 43 1 (by omega) (by omega)] at z1
      rcases hmay with y | y
      · exact absurd y z1
      · rw [if_pos rfl] at y
        exact y
    · have eg : goalF N 1 = M.1 20 t := by unfold goalF; rw [k80, if_pos rfl, k44]
      have eg1 : goalF N 0 = goalF M 0 := by unfold goalF; rw [ne 80 0 (by omega) (by omega), ne 44 0 (by omega) (by omega), ne 45 0 (by omega) (by omega)]
      rw [eg, eg1, k45, ne 42 0 (by omega) (by omega), ne 42 1 (by omega) (by omega), ne 45 0 (by omega) (by omega)]
      rw [ne 43 0 (by omega) (by omega)] at z0
      rcases hmay with y | y
      · exact absurd y z0
      · rw [if_neg (by decide)] at y
        exact y
theorem ChR_hm (hT2 : nT ≤ 12) (hG : GA M nT nA) {y : Int32} {t : Nat} (ht : t < 2147483648) (h : ChR M y nA (nI t)) : t < nT ∧ hmP M t := by
  have hv : ∀ k, k < nA → nI t = M.1 26 k → hmP M (tpN M k) → t < nT ∧ hmP M t := fun k hk e hm => by
    obtain ⟨s, p, g1, g2, -⟩ := hG k hk
    rw [g2, nI_eq_iff] at e
    subst e
    have : tpN M k = t := by unfold tpN; rw [g2]; exact ncl (N := 13) (by omega)
    rw [this] at hm
    exact ⟨g1, hm⟩
  rcases h with ⟨k, h1, h2, -, h3⟩ | ⟨-, ⟨k, h1, -, h2⟩ | ⟨-, ⟨k, h1, -, h2⟩ | ⟨-, h2⟩⟩⟩
  · exact hv k h1 h3 h2.1.2.2
  · exact hv k h1.1 h2 h1.2.1.2.2
  · exact hv k h1.1 h2 h1.2.1.2.2
  · exact absurd h2 (nI_m1 ht)
/-- step c -/
theorem GMI.aj (h : GMI M nT nR nA) (hT2 : nT ≤ 12) (hR2 : nR ≤ 3) {k : Nat} {N : MD} (hk : k < 2) (q : ajR M k nR nA N) : GMI N nT nR nA := by
  rcases q with ⟨h43, q⟩ | ⟨-, rfl⟩
  rotate_left
  · exact h
  rcases q with ⟨i, i1, i2, -, rfl⟩ | ⟨-, ⟨-, rfl⟩ | ⟨r, r1, r2, -, ch, h1, ⟨t, t1, rfl, t3, rfl⟩ | ⟨-, rfl⟩⟩⟩
  · exact h.back hT2 hR2 hk h43 i1 i2
  · exact h
  · obtain ⟨g1, g2⟩ := ChR_hm hT2 h.2.1 (by omega) h1
    exact h.bring hT2 hR2 hk h43 r1 r2 g1 g2 t3
  · exact h
theorem GMI.tf (h : GMI M nT nR nA) (hT2 : nT ≤ 12) (hR2 : nR ≤ 3) : TF nT nR nA M := by
  obtain ⟨gS, gA, gH, gW, gR, gJ, gT, gI, gD, gSp, gU⟩ := h
  refine ⟨gS.1, gS.2.1, gA, gH, gW, gR, fun k hk => ?_, fun k hk q => ?_⟩
  · by_cases z : M.1 43 k = -1
    · exact Or.inl z
    · obtain ⟨t, r, t1, r1, e1, e2, -⟩ := gJ k hk z
      rw [e1, e2, ncl (N := 13) (by omega), ncl (N := 4) (by omega)]
      exact Or.inr ⟨t1, rfl, r1, rfl⟩
  · rcases gR k hk with ⟨-, w⟩ | ⟨w1, w2, -⟩
    · rcases w with w | w <;> rw [w] at q <;> exact absurd q (by decide)
    · refine ⟨w2, w1, fun hw => ?_⟩
      rw [← w2]
      exact ((gI k hk).2.2 0 hw).1
/-- what a tick keeps -/
theorem GMI.ti (hT2 : nT ≤ 12) (hR2 : nR ≤ 3) (hA2 : nA ≤ 150) : TI nT nR nA (fun M => GMI M nT nR nA) :=
  ⟨fun _ h => h.tf hT2 hR2, fun _ _ hk h => h.mv hT2 hR2 hA2 hk, fun _ _ hk h => h.wk hT2 hR2 hk, fun _ _ _ hk h q => h.aj hT2 hR2 hk q, fun _ h => h.now _⟩
end ZG3
