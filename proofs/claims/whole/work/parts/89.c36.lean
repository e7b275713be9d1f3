/-! The class: a reader is broken; what settings, mends, breaks keep -/
def bkF (c : HP) (t : Nat) (f : Nat → Nat) : Nat → HP
  | 0 => c
  | n + 1 => cwC (wI (bkF c t f n) 1 7 (f n) 0) (f n) t 1
theorem bkF_s (c : HP) (t : Nat) (f : Nat → Nat) (n : Nat) : bkF c t f (n + 1) = cwC (wI (bkF c t f n) 1 7 (f n) 0) (f n) t 1 := rfl
def wBk : Nat → Nat → Nat → Prop := fun a i _ => (a = 1 ∧ i = 7) ∨ (a = 6 ∧ 13 ≤ i ∧ i ≤ 15) ∨ (a = 5 ∧ 7 ≤ i)
theorem bk_fr {c : HP} {t : Nat} {f : Nat → Nat} : ∀ n, FRI wBk c (bkF c t f n)
  | 0 => FRI.rf _ _
  | n + 1 => by
    rw [bkF_s]
    exact (((bk_fr n).w (k := 1) (i := 7) (j := f n) 0 (by unfold wBk; omega))).tr ((cw_q _ _ _ _).mo (fun a b _ w => by unfold wBk; omega))
theorem bk_13 {c : HP} {t : Nat} {f : Nat → Nat} {n : Nat} (hn : 0 < n) : mI (bkF c t f n) 6 13 0 = -1 := by
  obtain ⟨m, rfl⟩ : ∃ m, n = m + 1 := ⟨n - 1, by omega⟩
  rw [bkF_s, cwC_13]
section ZC36
variable {c : HP} {M : MD} {nT nR nA : Nat}
theorem setW_30 {f : Nat → Nat} {v : Int32} {a : Nat} : ∀ n, (∀ i, i < n → ¬ f i = a) → (setW M f v n).1 30 a = M.1 30 a
  | 0, _ => rfl
  | n + 1, h => by
    show (uI (setW M f v n) 30 (f n) v).1 30 a = _
    rw [uI_1, if_neg (fun z => h n (by omega) z.2.symm)]
    exact setW_30 n (fun i hi => h i (by omega))
theorem setW_at {f : Nat → Nat} {v : Int32} {a : Nat} : ∀ n i, i < n → f i = a → (setW M f v n).1 30 a = v
  | 0, i, h, _ => by omega
  | n + 1, i, h, e => by
    show (uI (setW M f v n) 30 (f n) v).1 30 a = _
    rw [uI_1]
    by_cases z : f n = a
    · rw [if_pos ⟨rfl, z.symm⟩]
    · rw [if_neg (fun y => z y.2.symm)]
      refine setW_at n i ?_ e
      rcases Nat.lt_or_ge i n with q | q
      · exact q
      · exact absurd (by rw [← e, show i = n by omega]) z
theorem bk_loop {t : Nat} {f : Nat → Nat} (hA : CA c M nA) (hW : CW c M nT nA) (hT2 : nT ≤ 12) (ht : t < nT) : ∀ n, (∀ i, i < n → f i < nA ∧ M.1 26 (f i) = nI t ∧ M.1 30 (f i) = 1) → (∀ i j, i < n → j < n → f i = f j → i = j) → CA (bkF c t f n) (setW M f 0 n) nA ∧ CW (bkF c t f n) (setW M f 0 n) nT nA
  | 0, _, _ => ⟨hA, hW⟩
  | n + 1, hf, hi => by
    obtain ⟨i1, i2⟩ := bk_loop hA hW hT2 ht n (fun i h => hf i (by omega)) (fun i j h g => hi i j (by omega) (by omega))
    obtain ⟨f1, f2, f3⟩ := hf n (by omega)
    have g26 : (setW M f 0 n).1 26 (f n) = nI t := by rw [setW_ne _ _ _ (by omega)]; exact f2
    have g30 : (setW M f 0 n).1 30 (f n) = 1 := by
      rw [setW_30 n (fun i h e => by have := hi i n (by omega) (by omega) e; omega)]
      exact f3
    obtain ⟨c0, c1, c2, c3, c4, -⟩ := i1 (f n) f1
    have k2 := i2.w (t := t) 0 f1 g26 hT2 ht c0 c4 1 (Or.inr ⟨rfl, by rw [g30]; decide, rfl⟩)
    have k1 := (i1.w17 (f n) 0).fr (cw_q (wI (bkF c t f n) 1 7 (f n) 0) (f n) t 1).q (fun i j z => by omega) (fun j => (cw_q _ _ _ _).J 1 9 j) (EK.rf _ _) (fun _ => rfl)
    exact ⟨k1, k2⟩
theorem breaksM_ne {k b : Nat} (h : ¬ (b = 30 ∨ b = 36 ∨ b = 39 ∨ b = 40)) (i : Nat) : (breaksM M k).1 b i = M.1 b i := by
  unfold breaksM
  rw [uI_1, if_neg (by omega), uI_1, if_neg (by omega), uI_1, if_neg (by omega), setW_ne _ _ _ (by omega)]
theorem breaksM_30 {k : Nat} (a : Nat) : (breaksM M k).1 30 a = (setW M (wkL M k) 0 (wkN M k)).1 30 a := by
  unfold breaksM
  simp only [mI_wI, mJ_wI, mP_wI, mL_wI, mA_wI, mI_wJ, mJ_wJ, mP_wJ, mL_wJ, mA_wJ, uI_1, uI_2, uJ_1, uJ_2, Nat.reduceEqDiff, false_and, and_false, true_and, and_true, reduceIte]
theorem breaksM_36 {k : Nat} (i : Nat) : (breaksM M k).1 36 i = if i = k then 4 else M.1 36 i := by
  unfold breaksM
  simp only [mI_wI, mJ_wI, mP_wI, mL_wI, mA_wI, mI_wJ, mJ_wJ, mP_wJ, mL_wJ, mA_wJ, uI_1, uI_2, uJ_1, uJ_2, Nat.reduceEqDiff, false_and, and_false, true_and, and_true, reduceIte]
  rw [setW_ne _ _ _ (by omega)]
theorem breaksM_39 {k : Nat} (i : Nat) : (breaksM M k).1 39 i = if i = k then 0 else M.1 39 i := by
  unfold breaksM
  simp only [mI_wI, mJ_wI, mP_wI, mL_wI, mA_wI, mI_wJ, mJ_wJ, mP_wJ, mL_wJ, mA_wJ, uI_1, uI_2, uJ_1, uJ_2, Nat.reduceEqDiff, false_and, and_false, true_and, and_true, reduceIte]
  rw [setW_ne _ _ _ (by omega)]
theorem breaksM_40 {k : Nat} (i : Nat) : (breaksM M k).1 40 i = if i = k then 0 else M.1 40 i := by
  unfold breaksM
  simp only [mI_wI, mJ_wI, mP_wI, mL_wI, mA_wI, mI_wJ, mJ_wJ, mP_wJ, mL_wJ, mA_wJ, uI_1, uI_2, uJ_1, uJ_2, Nat.reduceEqDiff, false_and, and_false, true_and, and_true, reduceIte]
  rw [setW_ne _ _ _ (by omega)]
theorem breaksM_2 {k : Nat} : (breaksM M k).2 = M.2 := by
  unfold breaksM
  rw [uI_2, uI_2, uI_2, setW_2]
theorem breaksM_w {k : Nat} (j : Nat) : wkN (breaksM M k) j = if j = k then 0 else wkN M j := by
  unfold wkN
  rw [breaksM_39]
  by_cases e : j = k
  · rw [if_pos e, if_pos e]
    rfl
  · rw [if_neg e, if_neg e]
theorem GI_inj (gI : GI M nR) {k : Nat} (hk : k < nR) : ∀ i j, i < wkN M k → j < wkN M k → wkL M k i = wkL M k j → i = j := fun i j hi hj e => by
  rcases Nat.lt_trichotomy i j with q | q | q
  · exact absurd e (((gI k hk).2.2 j hj).2.2 i q)
  · exact q
  · exact absurd e.symm (((gI k hk).2.2 i hi).2.2 j q)
/-- the tape of a reader's asks -/
theorem GI_t (hT2 : nT ≤ 12) (gI : GI M nR) (gA : GA M nT nA) (gW : GW M nR nA) {k i : Nat} (hk : k < nR) (hi : i < wkN M k) : rtN M k < nT ∧ M.1 26 (wkL M k i) = nI (rtN M k) ∧ M.1 37 k = nI (rtN M k) := by
  obtain ⟨s1, s2, -⟩ := (gI k hk).2.2 i hi
  obtain ⟨t, p, b1, b2, -⟩ := gA _ ((gW k hk).2.2 i hi).2
  have e : M.1 37 k = nI t := by rw [← s1]; exact b2
  have e2 : rtN M k = t := by unfold rtN; rw [e]; exact ncl (N := 13) (by omega)
  rw [e2]
  exact ⟨b1, b2, e⟩
theorem CPT.breaks (h : CPT c M nT nR nA) (hG : GMI M nT nR nA) (hT2 : nT ≤ 12) {k : Nat} (hk : k < nR) : CPT (wI (dwC (bkF c (rtN M k) (wkL M k) (wkN M k)) k) 3 2 k 4) (breaksM M k) nT nR nA := by
  obtain ⟨gS, gA, gH, gW, gR, gJ, gT, gI, gD, gSp, gU⟩ := hG
  obtain ⟨⟨a1, a2, a3, a4, a5, a6, a7, a8⟩, b1, b2, b3, b4⟩ := h
  have hL : CA (bkF c (rtN M k) (wkL M k) (wkN M k)) (setW M (wkL M k) 0 (wkN M k)) nA ∧ CW (bkF c (rtN M k) (wkL M k) (wkN M k)) (setW M (wkL M k) 0 (wkN M k)) nT nA := by
    by_cases z : wkN M k = 0
    · rw [z]
      exact ⟨a1, a3⟩
    · exact bk_loop a1 a3 hT2 (GI_t hT2 gI gA gW hk (show 0 < wkN M k by omega)).1 _ (fun i hi => ⟨((gW k hk).2.2 i hi).2, (GI_t hT2 gI gA gW hk hi).2.1, ((gI k hk).2.2 i hi).2.1⟩) (GI_inj gI hk)
  have hb := bk_fr (c := c) (t := rtN M k) (f := wkL M k) (wkN M k)
  have h2 : FRI (fun a i _ => a = 3 ∧ 2 ≤ i) (bkF c (rtN M k) (wkL M k) (wkN M k)) (wI (dwC (bkF c (rtN M k) (wkL M k) (wkN M k)) k) 3 2 k 4) := (dw_fr (FRI.rf _ _) k (fun i hi => ⟨rfl, by omega⟩)).w _ ⟨rfl, by omega⟩
  have hF : FRI (fun a i _ => (a = 1 ∧ i = 7) ∨ (a = 6 ∧ 13 ≤ i ∧ i ≤ 15) ∨ (a = 5 ∧ 7 ≤ i) ∨ (a = 3 ∧ 2 ≤ i)) c (wI (dwC (bkF c (rtN M k) (wkL M k) (wkN M k)) k) 3 2 k 4) := (hb.mo (fun a b _ w => by unfold wBk at w; omega)).tr (h2.mo (fun a b _ w => by omega))
  have e3 : ∀ f : Nat → Nat → Bool, (∀ i, f 36 i = false ∧ f 39 i = false ∧ f 40 i = false) → EK f (setW M (wkL M k) 0 (wkN M k)) (breaksM M k) := fun f q => by
    unfold breaksM
    exact (((EK.rf f _).w _ (q _).2.1).w _ (q _).2.2).w _ (q _).1
  have ek : ∀ f : Nat → Nat → Bool, (∀ b i, f b i = true → ¬ (b = 30 ∨ b = 36 ∨ b = 39 ∨ b = 40)) → EK f M (breaksM M k) := fun f q b i y => breaksM_ne (q b i y) i
  refine ⟨⟨?_, ?_, ?_, ?_, ?_, ?_, ?_, ?_⟩, ?_, ?_, ?_, ?_⟩
  · exact hL.1.fr h2.q (fun i j z => by omega) (fun j => h2.J 1 9 j) (e3 kA (fun _ => ⟨rfl, rfl, rfl⟩)) (fun _ => by rw [breaksM_2, setW_2])
  · exact a2.fr hF.q (fun i j hi z => by omega) (ek kT (fun b i q => by simp only [kT, Bool.or_eq_true, Bool.and_eq_true, beq_iff_eq] at q; omega))
  · exact hL.2.fr h2.q (fun j => ⟨fun z => by omega, fun z => by omega, fun z => by omega, fun z => by omega⟩) (e3 kW (fun _ => ⟨rfl, rfl, rfl⟩))
  · intro j hj
    obtain ⟨r1, r2, r3, r4, r5, y, r6, r7, r8, r9⟩ := a4 j hj
    have g3 : ∀ i, mI (wI (dwC (bkF c (rtN M k) (wkL M k) (wkN M k)) k) 3 2 k 4) 3 i j = if i = 2 ∧ j = k then 4 else if j = k ∧ 4 ≤ i ∧ i ≤ 7 then 0 else mI c 3 i j := fun i => by
      rw [mI_wI, dw_3, hb.I (fun z => by unfold wBk at z; omega)]
      simp only [true_and]
    rw [g3 0, g3 2, g3 3, g3 6, g3 7, g3 4, g3 5, breaksM_ne (b := 35) (by omega), breaksM_36, breaksM_ne (b := 37) (by omega), breaksM_40, breaksM_ne (b := 41) (by omega), breaksM_w]
    by_cases e : j = k
    · subst e
      simp only [mI_wI, mJ_wI, mP_wI, mL_wI, mA_wI, mI_wJ, mJ_wJ, mP_wJ, mL_wJ, mA_wJ, uI_1, uI_2, uJ_1, uJ_2, Nat.reduceEqDiff, false_and, and_false, true_and, and_true, reduceIte, Nat.reduceLeDiff]
      refine ⟨r1, r3, fun z => absurd z (by decide), 0, rfl, rfl, by omega, fun i hi => by omega⟩
    · simp only [mI_wI, mJ_wI, mP_wI, mL_wI, mA_wI, mI_wJ, mJ_wJ, mP_wJ, mL_wJ, mA_wJ, uI_1, uI_2, uJ_1, uJ_2, Nat.reduceEqDiff, false_and, and_false, true_and, and_true, reduceIte, e]
      refine ⟨r1, r2, r3, r4, r5, y, r6, r7, r8, fun i hi => ?_⟩
      rw [dw_ne _ _ (by omega), hb.I (fun z => by unfold wBk at z; omega), breaksM_ne (by omega)]
      exact r9 i hi
  · exact a5.fr hF.q (fun i j hi z => by omega) (ek kJ (fun b i q => by simp only [kJ, Bool.or_eq_true, Bool.and_eq_true, beq_iff_eq] at q; omega))
  · rw [hF.I (fun z => by omega), breaksM_ne (by omega)]
    exact a6
  · rw [hF.I (fun z => by omega), breaksM_ne (by omega)]
    exact a7
  · rw [hF.I (fun z => by omega), breaksM_ne (by omega)]
    exact a8
  · exact b1.fi hF (fun t => breaksM_ne (by omega) t) (fun t => breaksM_ne (by omega) t) breaksM_2
  · by_cases z : 0 < wkN M k
    · refine Or.inl ?_
      rw [h2.I (fun z => by omega), bk_13 z]
    · have hz : wkN M k = 0 := by omega
      have ag : AG M (breaksM M k) := fun b i q => by
        by_cases e : b = 30
        · rw [e, breaksM_30, hz]
          rfl
        · exact breaksM_ne (fun w => by
            simp only [Bool.or_eq_true, beq_iff_eq] at q
            omega) i
      rw [hz] at h2
      rw [hz]
      exact b2.fr h2 (fun a b _ w => by omega) ag
  · exact b3.fr hF.q ⟨fun z => by omega, fun z => by omega⟩ (ek kG (fun b i q => by simp only [kG, Bool.or_eq_true, Bool.and_eq_true, beq_iff_eq] at q; omega))
  · exact b4.fr hF.q (fun j z => by omega) (breaksM_ne (by omega) _)
theorem GMI.breaks (h : GMI M nT nR nA) (hT2 : nT ≤ 12) (hR2 : nR ≤ 3) {k : Nat} (hk : k < nR) (h1 : ¬ M.1 36 k = 1) (h4 : ¬ M.1 36 k = 4) : GMI (breaksM M k) nT nR nA := by
  obtain ⟨gS, gA, gH, gW, gR, gJ, gT, gI, gD, gSp, gU⟩ := h
  have ek : ∀ f : Nat → Nat → Bool, (∀ b i, f b i = true → ¬ (b = 30 ∨ b = 36 ∨ b = 39 ∨ b = 40)) → EK f M (breaksM M k) := fun f q b i y => breaksM_ne (q b i y) i
  have ne : ∀ b i, ¬ (b = 30 ∨ b = 36 ∨ b = 39 ∨ b = 40) → (breaksM M k).1 b i = M.1 b i := fun b i q => breaksM_ne q i
  have el : ∀ j i, wkL (breaksM M k) j i = wkL M j i := fun j i => by unfold wkL; rw [ne 38 _ (by omega)]
  refine ⟨gS.fr (ek kS (fun b i q => by simp only [kS, Bool.or_eq_true, Bool.and_eq_true, beq_iff_eq] at q; omega)), gA.fr (ek kS (fun b i q => by simp only [kS, Bool.or_eq_true, Bool.and_eq_true, beq_iff_eq] at q; omega)), gH.fr (ek kGH (fun b i q => by simp only [kGH, Bool.or_eq_true, Bool.and_eq_true, beq_iff_eq] at q; omega)), ?_, ?_, ?_, gT.fr (ek kGT (fun b i q => by simp only [kGT, Bool.or_eq_true, Bool.and_eq_true, beq_iff_eq] at q; omega)), ?_, ?_, gSp.fr (ek kGp (fun b i q => by simp only [kGp, Bool.or_eq_true, Bool.and_eq_true, beq_iff_eq] at q; omega)), ?_⟩
  · intro j hj
    rw [breaksM_39, breaksM_w]
    by_cases e : j = k
    · rw [if_pos e, if_pos e]
      exact ⟨rfl, by omega, fun i hi => by omega⟩
    · rw [if_neg e, if_neg e]
      simp only [el]
      simp only [ne 38 _ (show ¬ (38 = 30 ∨ 38 = 36 ∨ 38 = 39 ∨ 38 = 40) by omega)]
      exact gW j hj
  · intro i hi
    unfold rtN
    rw [ne 37 i (by omega), breaksM_36]
    by_cases e : i = k
    · rw [if_pos e, e]
      rcases gR k hk with ⟨q1, q2⟩ | ⟨q1, q2, q3⟩
      · exact Or.inl ⟨q1, Or.inr rfl⟩
      · exact Or.inr ⟨q1, q2, Or.inr (Or.inr (Or.inr rfl))⟩
    · rw [if_neg e]
      exact gR i hi
  · intro j hj q
    rw [ne 43 j (by omega)] at q
    obtain ⟨s, u, s1, u1, s2, u2, hc⟩ := gJ j hj q
    refine ⟨s, u, s1, u1, by rw [ne 43 j (by omega)]; exact s2, by rw [ne 46 j (by omega)]; exact u2, ?_⟩
    rw [ne 81 j (by omega), ne 80 j (by omega), ne 37 u (by omega), breaksM_36]
    rcases hc with ⟨w1, w2, w3, w4⟩ | ⟨w1, w2, w3⟩ | ⟨w1, w2, w3, w4⟩
    · refine Or.inl ⟨w1, w2, w3, ?_⟩
      by_cases e : u = k
      · rw [if_pos e]
        exact Or.inr rfl
      · rw [if_neg e]
        exact w4
    · exact Or.inr (Or.inl ⟨w1, w2, fun i hi => by rw [ne 37 i (by omega)]; exact w3 i hi⟩)
    · refine Or.inr (Or.inr ⟨w1, w2, w3, ?_⟩)
      rw [if_neg (fun e => h1 (by rw [← e]; exact w4))]
      exact w4
  · intro j hj
    obtain ⟨i1, i2, i3⟩ := gI j hj
    rw [breaksM_w, breaksM_36, ne 37 j (by omega), ne 41 j (by omega)]
    by_cases e : j = k
    · rw [if_pos e, if_pos e]
      exact ⟨fun _ => rfl, fun z => absurd z (by decide), fun i hi => by omega⟩
    · rw [if_neg e, if_neg e]
      refine ⟨i1, i2, fun i hi => ?_⟩
      obtain ⟨v1, v2, v3⟩ := i3 i hi
      simp only [el]
      rw [ne 26 _ (by omega), breaksM_30, setW_30 _ (fun x hx z => ?_)]
      · exact ⟨v1, v2, v3⟩
      · obtain ⟨y1, y2, y3⟩ := GI_t hT2 gI gA gW hk hx
        obtain ⟨z1, z2, z3⟩ := GI_t hT2 gI gA gW hj hi
        rw [z] at y2
        have := gT.1 k j hk hj (fun q => e q.symm) (by rw [y3, z3, ← y2, ← z2])
        rw [y3] at this
        exact nI_m1 (by omega) this
  · intro a ha q
    rw [ne 31 a (by omega)]
    rw [breaksM_30] at q
    by_cases z : ∃ i, i < wkN M k ∧ wkL M k i = a
    · obtain ⟨i, hi, e⟩ := z
      exact gD a ha (Or.inr (by rw [← e]; exact ((gI k hk).2.2 i hi).2.1))
    · rw [setW_30 _ (fun i hi e => z ⟨i, hi, e⟩)] at q
      exact gD a ha q
  · obtain ⟨u1, u2, u3, u4⟩ := gU
    exact ⟨fun s hs => by rw [ne 23 s (by omega), ne 24 s (by omega)]; exact u1 s hs, fun i hi => by rw [breaksM_2]; exact u2 i hi, fun i hi => by rw [breaksM_2]; exact u3 i hi, fun i hi => by rw [breaksM_39, breaksM_40, if_neg (by omega), if_neg (by omega)]; exact u4 i hi⟩
theorem GMI.mends (h : GMI M nT nR nA) (hT2 : nT ≤ 12) {k : Nat} (hk : k < nR) (h4 : M.1 36 k = 4) : GMI (uI M 36 k (if M.1 37 k = -1 then 0 else 3)) nT nR nA := by
  obtain ⟨gS, gA, gH, gW, gR, gJ, gT, gI, gD, gSp, gU⟩ := h
  obtain ⟨N, hN⟩ : ∃ N, N = uI M 36 k (if M.1 37 k = -1 then 0 else 3) := ⟨_, rfl⟩
  have ne : ∀ b i, ¬ b = 36 → N.1 b i = M.1 b i := fun b i q => by rw [hN, uI_1, if_neg (by omega)]
  have n36 : ∀ i, N.1 36 i = if i = k then (if M.1 37 k = -1 then 0 else 3) else M.1 36 i := fun i => by rw [hN]; simp only [mI_wI, mJ_wI, mP_wI, mL_wI, mA_wI, mI_wJ, mJ_wJ, mP_wJ, mL_wJ, mA_wJ, uI_1, uI_2, uJ_1, uJ_2, Nat.reduceEqDiff, false_and, and_false, true_and, and_true, reduceIte]
  have n2 : N.2 = M.2 := by rw [hN]; rfl
  have ek : ∀ f : Nat → Nat → Bool, (∀ b i, f b i = true → ¬ b = 36) → EK f M N := fun f q b i y => ne b i (q b i y)
  rw [← hN]
  refine ⟨gS.fr (ek kS (fun b i q => by simp only [kS, Bool.or_eq_true, Bool.and_eq_true, beq_iff_eq] at q; omega)), gA.fr (ek kS (fun b i q => by simp only [kS, Bool.or_eq_true, Bool.and_eq_true, beq_iff_eq] at q; omega)), gH.fr (ek kGH (fun b i q => by simp only [kGH, Bool.or_eq_true, Bool.and_eq_true, beq_iff_eq] at q; omega)), gW.fr (ek kGW (fun b i q => by simp only [kGW, Bool.or_eq_true, Bool.and_eq_true, beq_iff_eq] at q; omega)), ?_, ?_, gT.fr (ek kGT (fun b i q => by simp only [kGT, Bool.or_eq_true, Bool.and_eq_true, beq_iff_eq] at q; omega)), ?_, gD.fr (ek kGD (fun b i q => by simp only [kGD, Bool.or_eq_true, Bool.and_eq_true, beq_iff_eq] at q; omega)), gSp.fr (ek kGp (fun b i q => by simp only [kGp, Bool.or_eq_true, Bool.and_eq_true, beq_iff_eq] at q; omega)), gU.fr (ek kGU (fun b i q => by simp only [kGU, Bool.or_eq_true, Bool.and_eq_true, beq_iff_eq] at q; omega)) n2⟩
  · intro i hi
    unfold rtN
    rw [ne 37 i (by omega), n36]
    by_cases e : i = k
    · rw [if_pos e, e]
      rcases gR k hk with ⟨q1, q2⟩ | ⟨q1, q2, q3⟩
      · rw [if_pos q1]
        exact Or.inl ⟨q1, Or.inl rfl⟩
      · rw [if_neg (by rw [q2]; exact nI_m1 (by omega))]
        exact Or.inr ⟨q1, q2, Or.inr (Or.inr (Or.inl rfl))⟩
    · rw [if_neg e]
      exact gR i hi
  · intro j hj q
    rw [ne 43 j (by omega)] at q
    obtain ⟨s, u, s1, u1, s2, u2, hc⟩ := gJ j hj q
    refine ⟨s, u, s1, u1, by rw [ne 43 j (by omega)]; exact s2, by rw [ne 46 j (by omega)]; exact u2, ?_⟩
    rw [ne 81 j (by omega), ne 80 j (by omega), ne 37 u (by omega), n36]
    rcases hc with ⟨w1, w2, w3, w4⟩ | ⟨w1, w2, w3⟩ | ⟨w1, w2, w3, w4⟩
    · refine Or.inl ⟨w1, w2, w3, ?_⟩
      by_cases e : u = k
      · rw [if_pos e, if_neg (by rw [← e, w3]; exact nI_m1 (by omega))]
        exact Or.inl rfl
      · rw [if_neg e]
        exact w4
    · exact Or.inr (Or.inl ⟨w1, w2, fun i hi => by rw [ne 37 i (by omega)]; exact w3 i hi⟩)
    · refine Or.inr (Or.inr ⟨w1, w2, w3, ?_⟩)
      rw [if_neg (fun e => by rw [e, h4] at w4; exact absurd w4 (by decide))]
      exact w4
  · intro j hj
    obtain ⟨i1, i2, i3⟩ := gI j hj
    have ew : wkN N j = wkN M j := by unfold wkN; rw [ne 39 j (by omega)]
    have el : ∀ i, wkL N j i = wkL M j i := fun i => by unfold wkL; rw [ne 38 _ (by omega)]
    rw [ew, n36, ne 37 j (by omega), ne 41 j (by omega)]
    by_cases e : j = k
    · subst e
      have hz := i1 (by rw [h4]; decide)
      rw [if_pos rfl, hz]
      refine ⟨fun _ => rfl, fun z => ?_, fun i hi => by omega⟩
      split at z <;> exact absurd z (by decide)
    · rw [if_neg e]
      refine ⟨i1, i2, fun i hi => ?_⟩
      simp only [el]
      rw [ne 26 _ (by omega), ne 30 _ (by omega)]
      exact i3 i hi
theorem GMI.set7 (h : GMI M nT nR nA) {x y : Int32} (hx : -1000 ≤ x) : GMI (uI (uI M 7 10 x) 7 11 y) nT nR nA := by
  obtain ⟨gS, gA, gH, gW, gR, gJ, gT, gI, gD, gSp, gU⟩ := h
  have ek : ∀ f : Nat → Nat → Bool, (∀ b i, f b i = true → ¬ b = 7) → EK f M (uI (uI M 7 10 x) 7 11 y) := fun f q b i w => by rw [uI_1, if_neg (fun z => q b i w z.1), uI_1, if_neg (fun z => q b i w z.1)]
  obtain ⟨s1, s2, s3, s4, s5, s6, s7⟩ := gS
  refine ⟨⟨s1, s2, s3, s4, s5, by simp only [mI_wI, mJ_wI, mP_wI, mL_wI, mA_wI, mI_wJ, mJ_wJ, mP_wJ, mL_wJ, mA_wJ, uI_1, uI_2, uJ_1, uJ_2, Nat.reduceEqDiff, false_and, and_false, true_and, and_true, reduceIte]; exact hx, s7⟩, fun k hk => gA k hk, gH.fr (ek kGH (fun b i q => by simp only [kGH, Bool.or_eq_true, Bool.and_eq_true, beq_iff_eq] at q; omega)), gW.fr (ek kGW (fun b i q => by simp only [kGW, Bool.or_eq_true, Bool.and_eq_true, beq_iff_eq] at q; omega)), gR.fr (ek kGR (fun b i q => by simp only [kGR, Bool.or_eq_true, Bool.and_eq_true, beq_iff_eq] at q; omega)), gJ.fr (ek kGJ (fun b i q => by simp only [kGJ, Bool.or_eq_true, Bool.and_eq_true, beq_iff_eq] at q; omega)), gT.fr (ek kGT (fun b i q => by simp only [kGT, Bool.or_eq_true, Bool.and_eq_true, beq_iff_eq] at q; omega)), gI.fr (ek kGI (fun b i q => by simp only [kGI, Bool.or_eq_true, Bool.and_eq_true, beq_iff_eq] at q; omega)), gD.fr (ek kGD (fun b i q => by simp only [kGD, Bool.or_eq_true, Bool.and_eq_true, beq_iff_eq] at q; omega)), gSp.fr (ek kGp (fun b i q => by simp only [kGp, Bool.or_eq_true, Bool.and_eq_true, beq_iff_eq] at q; omega)), gU.fr (ek kGU (fun b i q => by simp only [kGU, Bool.or_eq_true, Bool.and_eq_true, beq_iff_eq] at q; omega)) rfl⟩
theorem CPT.set7 (h : CPT c M nT nR nA) (x y : Int32) : CPT (wI (wI c 6 11 0 x) 6 12 0 y) (uI (uI M 7 10 x) 7 11 y) nT nR nA := by
  obtain ⟨⟨a1, a2, a3, a4, a5, a6, a7, a8⟩, b1, b2, b3, b4⟩ := h
  have hF : FRI (fun a b _ => a = 6 ∧ (b = 11 ∨ b = 12)) c (wI (wI c 6 11 0 x) 6 12 0 y) := ((FRI.rf _ c).w _ ⟨rfl, Or.inl rfl⟩).w _ ⟨rfl, Or.inr rfl⟩
  have ek : ∀ f : Nat → Nat → Bool, (∀ b i, f b i = true → ¬ b = 7) → EK f M (uI (uI M 7 10 x) 7 11 y) := fun f q b i w => by rw [uI_1, if_neg (fun z => q b i w z.1), uI_1, if_neg (fun z => q b i w z.1)]
  refine ⟨⟨a1.fr hF.q (fun i j z => by omega) (fun j => hF.J 1 9 j) (ek kA (fun b i q => by simp only [kA, Bool.or_eq_true, Bool.and_eq_true, beq_iff_eq] at q; omega)) (fun _ => rfl), a2.fr hF.q (fun i j hi z => by omega) (ek kT (fun b i q => by simp only [kT, Bool.or_eq_true, Bool.and_eq_true, beq_iff_eq] at q; omega)), a3.fr hF.q (fun j => ⟨fun z => by omega, fun z => by omega, fun z => by omega, fun z => by omega⟩) (ek kW (fun b i q => by simp only [kW, Bool.or_eq_true, Bool.and_eq_true, beq_iff_eq] at q; omega)), a4.fr hF.q (fun i j z => by omega) (fun i j z => by omega) (ek kR (fun b i q => by simp only [kR, Bool.or_eq_true, Bool.and_eq_true, beq_iff_eq] at q; omega)), a5.fr hF.q (fun i j hi z => by omega) (ek kJ (fun b i q => by simp only [kJ, Bool.or_eq_true, Bool.and_eq_true, beq_iff_eq] at q; omega)), ?_, ?_, ?_⟩, b1.fi hF (fun t => rfl) (fun t => rfl) rfl, b2.fr hF (fun k i j z => by omega) ((ek kP (fun b i q => by simp only [kP, Bool.or_eq_true, Bool.and_eq_true, beq_iff_eq] at q; omega))).ag, b3.fr hF.q ⟨fun z => by omega, fun z => by omega⟩ (ek kG (fun b i q => by simp only [kG, Bool.or_eq_true, Bool.and_eq_true, beq_iff_eq] at q; omega)), b4.fr hF.q (fun j z => by omega) rfl⟩
  · simp only [mI_wI, mJ_wI, mP_wI, mL_wI, mA_wI, mI_wJ, mJ_wJ, mP_wJ, mL_wJ, mA_wJ, uI_1, uI_2, uJ_1, uJ_2, Nat.reduceEqDiff, false_and, and_false, true_and, and_true, reduceIte]
    exact a6
  · simp only [mI_wI, mJ_wI, mP_wI, mL_wI, mA_wI, mI_wJ, mJ_wJ, mP_wJ, mL_wJ, mA_wJ, uI_1, uI_2, uJ_1, uJ_2, Nat.reduceEqDiff, false_and, and_false, true_and, and_true, reduceIte]
  · simp only [mI_wI, mJ_wI, mP_wI, mL_wI, mA_wI, mI_wJ, mJ_wJ, mP_wJ, mL_wJ, mA_wJ, uI_1, uI_2, uJ_1, uJ_2, Nat.reduceEqDiff, false_and, and_false, true_and, and_true, reduceIte]
end ZC36
section ZC36b
variable {l : Launch} {D : DD} {d : Nat} {c : HP} {M N : MD} {Q : List Value → HP → Prop}
theorem sp_breaks6 (hc : SKF c) {nT nR nA : Nat} (hd : SKD c nT nR nA) (hT2 : nT ≤ 12) (hR2 : nR ≤ 3) (hA2 : nA ≤ 150) (hC : CPT c M nT nR nA) (hG : GMI M nT nR nA) (x : Int32) (H : ∀ r c', (∃ k, k < nR ∧ x = nI k ∧ ¬ M.1 36 k = 1 ∧ ¬ M.1 36 k = 4 ∧ r = 1 ∧ CPT c' (breaksM M k) nT nR nA ∧ FRJ wTk c c') ∨ ((∀ k, k < nR → x = nI k → M.1 36 k = 1 ∨ M.1 36 k = 4) ∧ r = 0 ∧ c' = c) → Q [.int r] (pm c' N)) : K_X6_breaks l D (d + 3) [.ref (ob 6 0), .int x] (pm c N) Q := by
  refine m_X6_breaks (lsA := [.ref (ob 6 0), .int x, jk, jk, jk]) rfl (Nat.le_of_ble_eq_true rfl) ?_
  intro X h0 h26 h28 h33 h73 h79
  have k26 : (∀ k, k < nR → x = nI k → M.1 36 k = 1 ∨ M.1 36 k = 4) → ∀ ls, X 26 ls [] (pm c N) 0 0 := by
    intro q ls
    apply h26
    simp only [B_X6_breaks_26, o_ic, o_zret, cats_nil, cats_cons, rf_s, rf_n, isR_r, isR_n, isR_rf, cat_i, cat_l, cat_r, cat_n, cat_rf, unl_i, unl_l, unl_r, unl_n, unl_j, unl_rf, orf_r, orf_n, orf_rf, rf_null, mA_pm, mL_pm, mP_pm, List.length_cons, List.length_nil, List.cons_append, List.nil_append, Nat.reduceAdd, Nat.reduceLeDiff, Nat.reduceLT, Nat.reduceEqDiff, Nat.zero_add, Nat.add_zero, Nat.le_refl, Nat.zero_le, true_and, and_true, true_or, or_true, false_or, or_false, reduceIte]
    exact H _ _ (Or.inr ⟨q, rfl, rfl⟩)
  apply h0
  simp only [B_X6_breaks_0, o_al, o_il, o_as, o_ifn, o_gf, o_ic, o_ic2, nth_0, nth_1, lset_2, nth_2, opV_1, mV_3_2, al_3, cI_3, ix_3, al_6, ix_6, hc.a6, cats_nil, cats_cons, rf_s, rf_n, isR_r, isR_n, isR_rf, cat_i, cat_l, cat_r, cat_n, cat_rf, unl_i, unl_l, unl_r, unl_n, unl_j, unl_rf, orf_r, orf_n, orf_rf, rf_null, mA_pm, mL_pm, mP_pm, List.length_cons, List.length_nil, List.cons_append, List.nil_append, Nat.reduceAdd, Nat.reduceLeDiff, Nat.reduceLT, Nat.reduceEqDiff, Nat.zero_add, Nat.add_zero, Nat.le_refl, Nat.zero_le, true_and, and_true, true_or, or_true, false_or, or_false, reduceIte]
  refine sp_readerAt hc hd hR2 x (fun v hv => ?_)
  rcases hv with ⟨k, hk, rfl, rfl⟩ | ⟨hno, rfl⟩
  rotate_left
  · simp only [o_al, o_il, o_as, o_ifn, o_gf, o_ic, o_ic2, nth_0, nth_1, lset_2, nth_2, opV_1, mV_3_2, al_3, cI_3, ix_3, al_6, ix_6, hc.a6, cats_nil, cats_cons, rf_s, rf_n, isR_r, isR_n, isR_rf, cat_i, cat_l, cat_r, cat_n, cat_rf, unl_i, unl_l, unl_r, unl_n, unl_j, unl_rf, orf_r, orf_n, orf_rf, rf_null, mA_pm, mL_pm, mP_pm, List.length_cons, List.length_nil, List.cons_append, List.nil_append, Nat.reduceAdd, Nat.reduceLeDiff, Nat.reduceLT, Nat.reduceEqDiff, Nat.zero_add, Nat.add_zero, Nat.le_refl, Nat.zero_le, true_and, and_true, true_or, or_true, false_or, or_false, reduceIte]
    exact ⟨fun _ => k26 (fun k hk e => absurd e (hno k hk)) _, fun z => by first | exact absurd rfl z | exact absurd trivial z⟩
  obtain ⟨ha, ha2, ha3⟩ := hd.2.2.2.2.1 k hk
  obtain ⟨gS, gA, gH, gW, gR, gJ, gT, gI, gD, gSp, gU⟩ := id hG
  obtain ⟨⟨a1, a2, a3, a4, a5, a6, a7, a8⟩, b1, b2, b3, b4⟩ := id hC
  obtain ⟨r1, r2, r3, r4, r5, y, r6, r7, r8, r9⟩ := a4 k hk
  simp only [o_al, o_il, o_as, o_ifn, o_gf, o_ic, o_ic2, nth_0, nth_1, lset_2, nth_2, opV_1, mV_3_2, al_3, cI_3, ix_3, al_6, ix_6, hc.a6, cats_nil, cats_cons, rf_s, rf_n, isR_r, isR_n, isR_rf, cat_i, cat_l, cat_r, cat_n, cat_rf, unl_i, unl_l, unl_r, unl_n, unl_j, unl_rf, orf_r, orf_n, orf_rf, rf_null, mA_pm, mL_pm, mP_pm, List.length_cons, List.length_nil, List.cons_append, List.nil_append, Nat.reduceAdd, Nat.reduceLeDiff, Nat.reduceLT, Nat.reduceEqDiff, Nat.zero_add, Nat.add_zero, Nat.le_refl, Nat.zero_le, true_and, and_true, true_or, or_true, false_or, or_false, reduceIte, ha, r2, rnn, false_imp_iff, not_false_eq_true, true_imp_iff]
  refine ⟨fun q => k26 (fun k' hk' e => by rw [nI_eq_iff] at e; subst e; exact Or.inl q) _, fun q => ⟨fun q2 => k26 (fun k' hk' e => by rw [nI_eq_iff] at e; subst e; exact Or.inr q2) _, fun q2 => ?_⟩⟩
  have H2 := H 1 _ (Or.inl ⟨k, hk, rfl, q, q2, rfl, hC.breaks hG hT2 hk, ?_⟩)
  rotate_left
  · exact ((((bk_fr (wkN M k)).mo (fun a b _ w => by unfold wBk at w; unfold wTk; omega)).tr (dw_fr (w := wTk) (FRI.rf _ _) k (fun i hi => by unfold wTk; omega))).w _ (by unfold wTk; omega)).j
  have loop : ∀ m i w4, i + m = wkN M k → X 33 [.ref (ob 6 0), .int (nI k), .ref (ob 3 k), .int (nI (y + i)), w4] [] (pm (bkF c (rtN M k) (wkL M k) i) N) 0 0 := by
    intro m
    induction m with
    | zero =>
      intro i w4 hi
      obtain rfl : i = wkN M k := by omega
      have hF := bk_fr (c := c) (t := rtN M k) (f := wkL M k) (wkN M k)
      have hA3 : mA (bkF c (rtN M k) (wkL M k) (wkN M k)) 3 k = true := by rw [hF.A]; exact ha
      have e5 : mI (bkF c (rtN M k) (wkL M k) (wkN M k)) 3 5 k = nI (y + wkN M k) := by rw [hF.I (fun z => by unfold wBk at z; omega)]; exact r7
      apply h33
      simp only [B_X6_breaks_33, o_il, o_al, o_gf, o_ic2, o_as, o_ifn, o_ic, o_pI, nth_3, nth_2, nth_0, lset_4, nth_4, opS_2, opV_1, opV_2, mV_3_5, al_3, cI_3, ix_3, mV_3_1, kd_19, ix_19, cI_19, cw_19, al_6, ix_6, hc.a6, al_1, ix_1, cw_1, cats_nil, cats_cons, rf_s, rf_n, isR_r, isR_n, isR_rf, cat_i, cat_l, cat_r, cat_n, cat_rf, unl_i, unl_l, unl_r, unl_n, unl_j, unl_rf, orf_r, orf_n, orf_rf, rf_null, mA_pm, mL_pm, mP_pm, List.length_cons, List.length_nil, List.cons_append, List.nil_append, Nat.reduceAdd, Nat.reduceLeDiff, Nat.reduceLT, Nat.reduceEqDiff, Nat.zero_add, Nat.add_zero, Nat.le_refl, Nat.zero_le, true_and, and_true, true_or, or_true, false_or, or_false, reduceIte, hA3, e5]
      refine ⟨fun _ => ?_, fun z => absurd (Int32.le_refl _) z⟩
      apply h79
      simp only [B_X6_breaks_79, o_al, o_ic, o_pI, o_zret, nth_2, opV_0, al_3, ix_3, cw_3, cats_nil, cats_cons, rf_s, rf_n, isR_r, isR_n, isR_rf, cat_i, cat_l, cat_r, cat_n, cat_rf, unl_i, unl_l, unl_r, unl_n, unl_j, unl_rf, orf_r, orf_n, orf_rf, rf_null, mA_pm, mL_pm, mP_pm, List.length_cons, List.length_nil, List.cons_append, List.nil_append, Nat.reduceAdd, Nat.reduceLeDiff, Nat.reduceLT, Nat.reduceEqDiff, Nat.zero_add, Nat.add_zero, Nat.le_refl, Nat.zero_le, true_and, and_true, true_or, or_true, false_or, or_false, reduceIte, hA3]
      refine sp_dropWork hA3 ?_
      have hA3' : mA (dwC (bkF c (rtN M k) (wkL M k) (wkN M k)) k) 3 k = true := hA3
      simp only [o_al, o_ic, o_pI, o_zret, nth_2, opV_0, al_3, ix_3, cw_3, cats_nil, cats_cons, rf_s, rf_n, isR_r, isR_n, isR_rf, cat_i, cat_l, cat_r, cat_n, cat_rf, unl_i, unl_l, unl_r, unl_n, unl_j, unl_rf, orf_r, orf_n, orf_rf, rf_null, mA_pm, mL_pm, mP_pm, List.length_cons, List.length_nil, List.cons_append, List.nil_append, Nat.reduceAdd, Nat.reduceLeDiff, Nat.reduceLT, Nat.reduceEqDiff, Nat.zero_add, Nat.add_zero, Nat.le_refl, Nat.zero_le, true_and, and_true, true_or, or_true, false_or, or_false, reduceIte, hA3']
      exact H2
    | succ m ih =>
      intro i w4 hi
      have hin : i < wkN M k := by omega
      have hF := bk_fr (c := c) (t := rtN M k) (f := wkL M k) i
      have hc1 := hF.sk hc
      have hd1 := hF.skd hd
      have hA3 : mA (bkF c (rtN M k) (wkL M k) i) 3 k = true := by rw [hF.A]; exact ha
      have e5 : mI (bkF c (rtN M k) (wkL M k) i) 3 5 k = nI (y + wkN M k) := by rw [hF.I (fun z => by unfold wBk at z; omega)]; exact r7
      obtain ⟨v1, v2⟩ := (gW k hk).2.2 i hin
      obtain ⟨t1, t2, t3⟩ := GI_t hT2 gI gA gW hk hin
      have e19 : mI (bkF c (rtN M k) (wkL M k) i) 19 (y + i) k = nI (wkL M k i) := by rw [hF.I (fun z => by unfold wBk at z; omega), r9 i hin]; exact v1
      have e11 : mI (bkF c (rtN M k) (wkL M k) i) 1 1 (wkL M k i) = nI (rtN M k) := by rw [hF.I (fun z => by unfold wBk at z; omega), (a1 _ v2).2.1]; exact t2
      have hP3 : mP (bkF c (rtN M k) (wkL M k) i) 3 1 k = some (ob 19 k) := (hd1.2.2.2.2.1 k hk).2.1
      apply h33
      simp only [B_X6_breaks_33, o_il, o_al, o_gf, o_ic2, o_as, o_ifn, o_ic, o_pI, nth_3, nth_2, nth_0, lset_4, nth_4, opS_2, opV_1, opV_2, mV_3_5, al_3, cI_3, ix_3, mV_3_1, kd_19, ix_19, cI_19, cw_19, al_6, ix_6, hc.a6, al_1, ix_1, cw_1, cats_nil, cats_cons, rf_s, rf_n, isR_r, isR_n, isR_rf, cat_i, cat_l, cat_r, cat_n, cat_rf, unl_i, unl_l, unl_r, unl_n, unl_j, unl_rf, orf_r, orf_n, orf_rf, rf_null, mA_pm, mL_pm, mP_pm, List.length_cons, List.length_nil, List.cons_append, List.nil_append, Nat.reduceAdd, Nat.reduceLeDiff, Nat.reduceLT, Nat.reduceEqDiff, Nat.zero_add, Nat.add_zero, Nat.le_refl, Nat.zero_le, true_and, and_true, true_or, or_true, false_or, or_false, reduceIte, hA3, e5, hP3]
      refine ⟨fun z => absurd z (by rw [nI_le_iff]; omega), fun _ => ?_⟩
      refine sp_at (n := 8) (by decide) rfl (hd1.2.2.2.2.1 k hk).2.2 (by omega) (by omega) ?_
      rw [e19]
      simp only [o_il, o_al, o_gf, o_ic2, o_as, o_ifn, o_ic, o_pI, nth_3, nth_2, nth_0, lset_4, nth_4, opS_2, opV_1, opV_2, mV_3_5, al_3, cI_3, ix_3, mV_3_1, kd_19, ix_19, cI_19, cw_19, al_6, ix_6, hc.a6, al_1, ix_1, cw_1, cats_nil, cats_cons, rf_s, rf_n, isR_r, isR_n, isR_rf, cat_i, cat_l, cat_r, cat_n, cat_rf, unl_i, unl_l, unl_r, unl_n, unl_j, unl_rf, orf_r, orf_n, orf_rf, rf_null, mA_pm, mL_pm, mP_pm, List.length_cons, List.length_nil, List.cons_append, List.nil_append, Nat.reduceAdd, Nat.reduceLeDiff, Nat.reduceLT, Nat.reduceEqDiff, Nat.zero_add, Nat.add_zero, Nat.le_refl, Nat.zero_le, true_and, and_true, true_or, or_true, false_or, or_false, reduceIte, hc1.a6]
      refine sp_askAt hc1 hd1 hA2 _ (fun v hv => ?_)
      rcases hv with ⟨k', k1, k2, rfl⟩ | ⟨k1, -⟩
      rotate_left
      · exact absurd rfl (k1 _ v2)
      rw [nI_eq_iff] at k2
      subst k2
      have hak := hd1.2.2.2.2.2 _ v2
      simp only [o_il, o_al, o_gf, o_ic2, o_as, o_ifn, o_ic, o_pI, nth_3, nth_2, nth_0, lset_4, nth_4, opS_2, opV_1, opV_2, mV_3_5, al_3, cI_3, ix_3, mV_3_1, kd_19, ix_19, cI_19, cw_19, al_6, ix_6, hc.a6, al_1, ix_1, cw_1, cats_nil, cats_cons, rf_s, rf_n, isR_r, isR_n, isR_rf, cat_i, cat_l, cat_r, cat_n, cat_rf, unl_i, unl_l, unl_r, unl_n, unl_j, unl_rf, orf_r, orf_n, orf_rf, rf_null, mA_pm, mL_pm, mP_pm, List.length_cons, List.length_nil, List.cons_append, List.nil_append, Nat.reduceAdd, Nat.reduceLeDiff, Nat.reduceLT, Nat.reduceEqDiff, Nat.zero_add, Nat.add_zero, Nat.le_refl, Nat.zero_le, true_and, and_true, true_or, or_true, false_or, or_false, reduceIte, hc1.a6, hak, al_1, al_3, rnn, false_imp_iff, not_false_eq_true, true_imp_iff, mA_wI]
      refine sp_changeWaiting (c := wI (bkF c (rtN M k) (wkL M k) i) 1 7 (wkL M k i) 0) (nT := nT) (nR := nR) (nA := nA) hc1 hd1 hT2 v2 t1 (by rw [mI_wI, if_neg (by omega)]; exact e11) 1 ?_
      simp only [o_il, o_al, o_gf, o_ic2, o_as, o_ifn, o_ic, o_pI, nth_3, nth_2, nth_0, lset_4, nth_4, opS_2, opV_1, opV_2, mV_3_5, al_3, cI_3, ix_3, mV_3_1, kd_19, ix_19, cI_19, cw_19, al_6, ix_6, hc.a6, al_1, ix_1, cw_1, cats_nil, cats_cons, rf_s, rf_n, isR_r, isR_n, isR_rf, cat_i, cat_l, cat_r, cat_n, cat_rf, unl_i, unl_l, unl_r, unl_n, unl_j, unl_rf, orf_r, orf_n, orf_rf, rf_null, mA_pm, mL_pm, mP_pm, List.length_cons, List.length_nil, List.cons_append, List.nil_append, Nat.reduceAdd, Nat.reduceLeDiff, Nat.reduceLT, Nat.reduceEqDiff, Nat.zero_add, Nat.add_zero, Nat.le_refl, Nat.zero_le, true_and, and_true, true_or, or_true, false_or, or_false, reduceIte]
      apply h73
      simp only [B_X6_breaks_73, o_inc, nth_3, lset_3, cats_nil, cats_cons, rf_s, rf_n, isR_r, isR_n, isR_rf, cat_i, cat_l, cat_r, cat_n, cat_rf, unl_i, unl_l, unl_r, unl_n, unl_j, unl_rf, orf_r, orf_n, orf_rf, rf_null, mA_pm, mL_pm, mP_pm, List.length_cons, List.length_nil, List.cons_append, List.nil_append, Nat.reduceAdd, Nat.reduceLeDiff, Nat.reduceLT, Nat.reduceEqDiff, Nat.zero_add, Nat.add_zero, Nat.le_refl, Nat.zero_le, true_and, and_true, true_or, or_true, false_or, or_false, reduceIte, nI_1]
      have h1 := ih (i + 1) (.ref (ob 1 (wkL M k i))) (by omega)
      rw [bkF_s] at h1
      exact h1
  apply h28
  simp only [B_X6_breaks_28, o_al, o_gf, o_is, nth_2, lset_3, mV_3_4, al_3, cI_3, ix_3, cats_nil, cats_cons, rf_s, rf_n, isR_r, isR_n, isR_rf, cat_i, cat_l, cat_r, cat_n, cat_rf, unl_i, unl_l, unl_r, unl_n, unl_j, unl_rf, orf_r, orf_n, orf_rf, rf_null, mA_pm, mL_pm, mP_pm, List.length_cons, List.length_nil, List.cons_append, List.nil_append, Nat.reduceAdd, Nat.reduceLeDiff, Nat.reduceLT, Nat.reduceEqDiff, Nat.zero_add, Nat.add_zero, Nat.le_refl, Nat.zero_le, true_and, and_true, true_or, or_true, false_or, or_false, reduceIte, ha, r6]
  exact loop (wkN M k) 0 _ (by omega)
end ZC36b
