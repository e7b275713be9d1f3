/-! Class and model: reader -/
def i3C (c : HP) (j : Nat) (x : Int32) : HP := wI (wI (wI (wP (wN c 19 j 8) 3 1 j (some (ob 19 j))) 3 2 j 0) 3 3 j (-1)) 3 0 j x
def rdC (c : HP) (j : Nat) (x : Int32) : HP := wI (wP (i3C (wN c 3 j 0) j x) 97 j 0 (some (ob 3 j))) 6 8 0 (nI (j + 1))
section ZRD
variable {c : HP} {M : MD} {nT nR nA nw L : Nat} {s : Nat → Int32} {j : Nat} {x : Int32}
theorem rd_I {a b e : Nat} (h : ¬ ((a = 3 ∨ a = 19) ∧ e = j)) : mI (rdC c j x) a b e = if a = 6 ∧ b = 8 ∧ e = 0 then nI (j + 1) else mI c a b e := by
  unfold rdC i3C
  rw [mI_wI, mI_wP]
  by_cases q : a = 6 ∧ b = 8 ∧ e = 0
  · rw [if_pos q, if_pos q]
  · rw [if_neg q, if_neg q, mI_wI, if_neg (by omega), mI_wI, if_neg (by omega), mI_wI, if_neg (by omega), mI_wP, mI_wN, if_neg (by omega), mI_wN, if_neg (by omega)]
theorem rd_I3 (b : Nat) : mI (rdC c j x) 3 b j = if b = 0 then x else if b = 3 then -1 else 0 := by
  unfold rdC i3C
  simp only [mI_wI, mJ_wI, mP_wI, mL_wI, mA_wI, mI_wJ, mJ_wJ, mP_wJ, mL_wJ, mA_wJ, uI_1, uI_2, uJ_1, uJ_2, Nat.reduceEqDiff, false_and, and_false, true_and, and_true, reduceIte, mI_wP, mJ_wP, mL_wP, mA_wP, mI_wN, mJ_wN, mP_wN, mL_wN, mA_wN]
  by_cases e : b = 2 <;> simp [e]
theorem rd_J {a b e : Nat} (h : ¬ ((a = 3 ∨ a = 19) ∧ e = j)) : mJ (rdC c j x) a b e = mJ c a b e := by
  unfold rdC i3C
  rw [mJ_wI, mJ_wP, mJ_wI, mJ_wI, mJ_wI, mJ_wP, mJ_wN, if_neg (by omega), mJ_wN, if_neg (by omega)]
theorem rd_P {a b e : Nat} (h : ¬ ((a = 3 ∨ a = 19) ∧ e = j)) : mP (rdC c j x) a b e = if a = 97 ∧ b = j ∧ e = 0 then some (ob 3 j) else mP c a b e := by
  unfold rdC i3C
  rw [mP_wI, mP_wP]
  by_cases q : a = 97 ∧ b = j ∧ e = 0
  · rw [if_pos q, if_pos q]
  · rw [if_neg q, if_neg q, mP_wI, mP_wI, mP_wI, mP_wP, if_neg (by omega), mP_wN, if_neg (by omega), mP_wN, if_neg (by omega)]
theorem rd_P3 : mP (rdC c j x) 3 1 j = some (ob 19 j) := by
  unfold rdC i3C
  simp only [mI_wI, mJ_wI, mP_wI, mL_wI, mA_wI, mI_wJ, mJ_wJ, mP_wJ, mL_wJ, mA_wJ, uI_1, uI_2, uJ_1, uJ_2, Nat.reduceEqDiff, false_and, and_false, true_and, and_true, reduceIte, mI_wP, mJ_wP, mL_wP, mA_wP, mI_wN, mJ_wN, mP_wN, mL_wN, mA_wN, mP_wP]
theorem rd_A {a e : Nat} (h : ¬ ((a = 3 ∨ a = 19) ∧ e = j)) : mA (rdC c j x) a e = mA c a e := by
  unfold rdC i3C
  simp only [mI_wI, mJ_wI, mP_wI, mL_wI, mA_wI, mI_wJ, mJ_wJ, mP_wJ, mL_wJ, mA_wJ, uI_1, uI_2, uJ_1, uJ_2, Nat.reduceEqDiff, false_and, and_false, true_and, and_true, reduceIte, mI_wP, mJ_wP, mL_wP, mA_wP, mI_wN, mJ_wN, mP_wN, mL_wN, mA_wN]
  rw [if_neg (by omega), if_neg (by omega)]
theorem rd_A3 : mA (rdC c j x) 3 j = true := by
  unfold rdC i3C
  simp only [mI_wI, mJ_wI, mP_wI, mL_wI, mA_wI, mI_wJ, mJ_wJ, mP_wJ, mL_wJ, mA_wJ, uI_1, uI_2, uJ_1, uJ_2, Nat.reduceEqDiff, false_and, and_false, true_and, and_true, reduceIte, mI_wP, mJ_wP, mL_wP, mA_wP, mI_wN, mJ_wN, mP_wN, mL_wN, mA_wN]
theorem rd_L {a e : Nat} (h : ¬ ((a = 3 ∨ a = 19) ∧ e = j)) : mL (rdC c j x) a e = mL c a e := by
  unfold rdC i3C
  simp only [mI_wI, mJ_wI, mP_wI, mL_wI, mA_wI, mI_wJ, mJ_wJ, mP_wJ, mL_wJ, mA_wJ, uI_1, uI_2, uJ_1, uJ_2, Nat.reduceEqDiff, false_and, and_false, true_and, and_true, reduceIte, mI_wP, mJ_wP, mL_wP, mA_wP, mI_wN, mJ_wN, mP_wN, mL_wN, mA_wN]
  rw [if_neg (by omega), if_neg (by omega)]
theorem rd_L19 : mL (rdC c j x) 19 j = 8 := by
  unfold rdC i3C
  simp only [mI_wI, mJ_wI, mP_wI, mL_wI, mA_wI, mI_wJ, mJ_wJ, mP_wJ, mL_wJ, mA_wJ, uI_1, uI_2, uJ_1, uJ_2, Nat.reduceEqDiff, false_and, and_false, true_and, and_true, reduceIte, mI_wP, mJ_wP, mL_wP, mA_wP, mI_wN, mJ_wN, mP_wN, mL_wN, mA_wN]
def wRd (j : Nat) : Nat → Nat → Nat → Prop := fun a b e => ((a = 3 ∨ a = 19) ∧ e = j) ∨ (a = 6 ∧ b = 8 ∧ e = 0)
theorem rd_q : QI (wRd j) c (rdC c j x) := fun a b e q => by
  unfold wRd at q
  rw [rd_I (by omega), if_neg (by omega)]
theorem CPL.reader (hR2 : nR < 3) (hT2 : nT ≤ 12) (hC : CPL c M nT nR nA) (hG : GMI M nT nR nA) (hL : LEV L s c) {a : Nat} (ha : a < 40) : CPL (rdC c nR (nI a)) (readerM M nR (nI a)) nT (nR + 1) nA ∧ GMI (readerM M nR (nI a)) nT (nR + 1) nA ∧ LEV L s (rdC c nR (nI a)) := by
  obtain ⟨c1, ⟨d1, d2, d3, d4, d5, d6⟩, c3, c4, ⟨c5, c6, c7⟩, c8, c9⟩ := hC
  obtain ⟨⟨a1, a2, a3, a4, a5, a6, a7, a8⟩, b1, b2, b3, b4⟩ := c4
  obtain ⟨⟨s1, s2, s3, s4, s5, s6, s7⟩, gA, gH, gW, gR, gJ, gT, gI, gD, gSp, u1, u2, u3, u4⟩ := hG
  obtain ⟨l1, l2, l3, l4, l5⟩ := hL
  obtain ⟨N, hN⟩ : ∃ N, N = readerM M nR (nI a) := ⟨_, rfl⟩
  have ne : ∀ b i, ¬ ((b = 35 ∨ b = 36 ∨ b = 37) ∧ i = nR) → ¬ (b = 7 ∧ i = 26) → N.1 b i = M.1 b i := fun b i q q2 => by
    rw [hN]
    unfold readerM
    rw [uI_1, if_neg (by omega), uI_1, if_neg (by omega), uI_1, if_neg (by omega), uI_1, if_neg (by omega)]
  have n35 : N.1 35 nR = nI a := by rw [hN]; unfold readerM; simp only [mI_wI, mJ_wI, mP_wI, mL_wI, mA_wI, mI_wJ, mJ_wJ, mP_wJ, mL_wJ, mA_wJ, uI_1, uI_2, uJ_1, uJ_2, Nat.reduceEqDiff, false_and, and_false, true_and, and_true, reduceIte]
  have n36 : N.1 36 nR = 0 := by rw [hN]; unfold readerM; simp only [mI_wI, mJ_wI, mP_wI, mL_wI, mA_wI, mI_wJ, mJ_wJ, mP_wJ, mL_wJ, mA_wJ, uI_1, uI_2, uJ_1, uJ_2, Nat.reduceEqDiff, false_and, and_false, true_and, and_true, reduceIte]
  have n37 : N.1 37 nR = -1 := by rw [hN]; unfold readerM; simp only [mI_wI, mJ_wI, mP_wI, mL_wI, mA_wI, mI_wJ, mJ_wJ, mP_wJ, mL_wJ, mA_wJ, uI_1, uI_2, uJ_1, uJ_2, Nat.reduceEqDiff, false_and, and_false, true_and, and_true, reduceIte]
  have n7 : N.1 7 26 = nI (nR + 1) := by rw [hN]; unfold readerM; simp only [mI_wI, mJ_wI, mP_wI, mL_wI, mA_wI, mI_wJ, mJ_wJ, mP_wJ, mL_wJ, mA_wJ, uI_1, uI_2, uJ_1, uJ_2, Nat.reduceEqDiff, false_and, and_false, true_and, and_true, reduceIte]
  have n2 : N.2 = M.2 := by rw [hN]; rfl
  have ek : ∀ f : Nat → Nat → Bool, (∀ b i, f b i = true → ¬ (b = 35 ∨ b = 36 ∨ b = 37 ∨ (b = 7 ∧ i = 26))) → EK f M N := fun f q b i z => ne b i (fun w => q b i z (by omega)) (fun w => q b i z (by omega))
  have ew : ∀ k, wkN N k = wkN M k := fun k => by unfold wkN; rw [ne 39 k (by omega) (by omega)]
  have el : ∀ k i, wkL N k i = wkL M k i := fun k i => by unfold wkL; rw [ne 38 _ (by omega) (by omega)]
  have w0 : wkN M nR = 0 := by unfold wkN; rw [(u4 nR (Nat.le_refl _)).1]; rfl
  have hm1 : ∀ t, t < nT → ¬ (-1 : Int32) = nI t := fun t ht z => nI_m1 (i := t) (by omega) z.symm
  have iI : ∀ k b e, ¬ ((k = 3 ∨ k = 19) ∧ e = nR) → ¬ (k = 6 ∧ b = 8 ∧ e = 0) → mI (rdC c nR (nI a)) k b e = mI c k b e := fun k b e q1 q2 => by rw [rd_I q1, if_neg q2]
  rw [← hN]
  have hag : AG M N := (ek kP (fun b i q => by simp only [kP, Bool.or_eq_true, Bool.and_eq_true, beq_iff_eq] at q; omega))
  refine ⟨⟨?_, ?_, ?_, ⟨⟨?_, ?_, ?_, ?_, ?_, ?_, ?_, ?_⟩, ?_, ?_, ?_, ?_⟩, ?_, ?_, ?_⟩, ?_, ?_⟩
  · refine SKF.of (fun k e q => rd_A ?_) (fun k e q => rd_L ?_) (fun k i e q => ?_) c1
    · simp only [SKF_A, Bool.or_eq_true, beq_iff_eq] at q
      omega
    · simp only [SKF_L, Bool.or_eq_true, beq_iff_eq] at q
      omega
    · simp only [SKF_P, Bool.or_eq_true, beq_iff_eq] at q
      rw [rd_P (by omega), if_neg (by omega)]
  · refine ⟨fun i hi => ?_, fun i hi => ?_, fun i hi => ?_, fun t ht => ?_, fun k hk => ?_, fun k hk => ?_⟩
    · rw [rd_P (by omega), if_neg (by omega)]
      exact d1 i hi
    · rw [rd_P (by omega)]
      by_cases e : i = nR
      · rw [if_pos ⟨rfl, e, rfl⟩, if_pos (by omega), e]
      · rw [if_neg (by omega), d2 i hi]
        by_cases z : i < nR
        · rw [if_pos z, if_pos (by omega)]
        · rw [if_neg z, if_neg (by omega)]
    · rw [rd_P (by omega), if_neg (by omega)]
      exact d3 i hi
    · rw [rd_A (by omega)]
      exact d4 t ht
    · by_cases e : k = nR
      · rw [e]
        exact ⟨rd_A3, rd_P3, rd_L19⟩
      · rw [rd_A (by omega), rd_P (by omega), if_neg (by omega), rd_L (by omega)]
        exact d5 k (by omega)
    · rw [rd_A (by omega)]
      exact d6 k hk
  · refine SKM.of (fun k e q => rd_A ?_) (fun k e q => rd_L ?_) (fun k i e q => ?_) c3
    · simp only [SKM_A, beq_iff_eq] at q
      omega
    · simp only [SKM_L, Bool.or_eq_true, beq_iff_eq] at q
      omega
    · simp only [SKM_P, beq_iff_eq] at q
      rw [rd_P (by omega), if_neg (by omega)]
  · exact a1.fr (w := wRd nR) rd_q (fun i j z => by unfold wRd at z; omega) (fun j => rd_J (by omega)) (ek kA (fun b i q => by simp only [kA, Bool.or_eq_true, Bool.and_eq_true, beq_iff_eq] at q; omega)) (fun j => by rw [n2])
  · exact a2.fr (w := wRd nR) rd_q (fun i j _ z => by unfold wRd at z; omega) (ek kT (fun b i q => by simp only [kT, Bool.or_eq_true, Bool.and_eq_true, beq_iff_eq] at q; omega))
  · exact a3.fr (w := wRd nR) rd_q (fun j => ⟨fun z => by unfold wRd at z; omega, fun z => by unfold wRd at z; omega, fun z => by unfold wRd at z; omega, fun z => by unfold wRd at z; omega⟩) (ek kW (fun b i q => by simp only [kW, Bool.or_eq_true, Bool.and_eq_true, beq_iff_eq] at q; omega))
  · intro k hk
    by_cases e : k = nR
    · subst e
      rw [rd_I3, rd_I3, rd_I3, rd_I3, rd_I3, rd_I3, rd_I3, n35, n36, n37, ne 40 k (by omega) (by omega), (u4 k (Nat.le_refl _)).2, ew, w0]
      simp only [mI_wI, mJ_wI, mP_wI, mL_wI, mA_wI, mI_wJ, mJ_wJ, mP_wJ, mL_wJ, mA_wJ, uI_1, uI_2, uJ_1, uJ_2, Nat.reduceEqDiff, false_and, and_false, true_and, and_true, reduceIte]
      exact ⟨fun z => absurd z (by decide), 0, rfl, rfl, by omega, fun i hi => by omega⟩
    · obtain ⟨r1, r2, r3, r4, r5, y, r6, r7, r8, r9⟩ := a4 k (by omega)
      rw [iI 3 0 k (by omega) (by omega), iI 3 2 k (by omega) (by omega), iI 3 3 k (by omega) (by omega), iI 3 6 k (by omega) (by omega), iI 3 7 k (by omega) (by omega), iI 3 4 k (by omega) (by omega), iI 3 5 k (by omega) (by omega), ne 35 k (by omega) (by omega), ne 36 k (by omega) (by omega), ne 37 k (by omega) (by omega), ne 40 k (by omega) (by omega), ne 41 k (by omega) (by omega), ew]
      refine ⟨r1, r2, r3, r4, r5, y, r6, r7, r8, fun i hi => ?_⟩
      rw [iI 19 _ k (by omega) (by omega), ne 38 _ (by omega) (by omega)]
      exact r9 i hi
  · exact a5.fr (w := wRd nR) rd_q (fun i j _ z => by unfold wRd at z; omega) (ek kJ (fun b i q => by simp only [kJ, Bool.or_eq_true, Bool.and_eq_true, beq_iff_eq] at q; omega))
  · rw [iI 6 10 0 (by omega) (by omega), ne 7 9 (by omega) (by omega)]
    exact a6
  · rw [iI 6 11 0 (by omega) (by omega), ne 7 10 (by omega) (by omega)]
    exact a7
  · rw [iI 6 12 0 (by omega) (by omega), ne 7 11 (by omega) (by omega)]
    exact a8
  · exact b1.fr (fun j => by rw [rd_P (by omega), if_neg (by omega)]) (fun j => rd_L (by omega)) (fun i j => rd_J (by omega)) (fun t => ne 21 t (by omega) (by omega)) (fun t => ne 22 t (by omega) (by omega)) (fun i => by rw [n2])
  · unfold PLC
    rw [iI 6 13 0 (by omega) (by omega)]
    rcases b2 with w | ⟨t, t1, t2, t3⟩
    · exact Or.inl w
    · exact Or.inr ⟨t, t1, t2, t3.q (w := wRd nR) rd_q (fun k i j z => by unfold wRd at z; omega) hag⟩
  · exact b3.fr (w := wRd nR) rd_q ⟨fun z => by unfold wRd at z; omega, fun z => by unfold wRd at z; omega⟩ (ek kG (fun b i q => by simp only [kG, Bool.or_eq_true, Bool.and_eq_true, beq_iff_eq] at q; omega))
  · exact b4.fr (w := wRd nR) rd_q (fun j z => by unfold wRd at z; omega) (ne 7 41 (by omega) (by omega))
  · refine ⟨?_, ?_, ?_⟩
    · rw [iI 6 7 0 (by omega) (by omega)]
      exact c5
    · rw [rd_I (by omega), if_pos ⟨rfl, rfl, rfl⟩]
    · rw [iI 6 9 0 (by omega) (by omega)]
      exact c7
  · exact c8.q (w := wRd nR) rd_q (rd_J (by omega)) (fun a i j z => by unfold wRd at z; omega) (ek kI (fun b i q => by simp only [kI, Bool.or_eq_true, Bool.and_eq_true, beq_iff_eq] at q; omega))
  · refine ⟨fun t ht => ?_, fun k hk => ?_, fun k hk => ?_⟩
    · rw [rd_A (by omega), rd_A (by omega)]
      exact c9.1 t ht
    · rw [rd_A (by omega), rd_A (by omega)]
      exact c9.2.1 k (by omega)
    · rw [rd_A (by omega)]
      exact c9.2.2 k hk
  · refine ⟨⟨n7, ?_, ?_, fun t ht => ?_, fun k hk => ?_, ?_, fun t ht => ?_⟩, GA_ag hag gA, gH.fr (ek kGH (fun b i q => by simp only [kGH, Bool.or_eq_true, Bool.and_eq_true, beq_iff_eq] at q; omega)), fun k hk => ?_, fun i hi => ?_, fun k hk q => ?_, ⟨fun i j hi hj hij y => ?_, ?_, fun i t hi ht y1 y2 => ?_⟩, fun k hk => ?_, gD.fr (ek kGD (fun b i q => by simp only [kGD, Bool.or_eq_true, Bool.and_eq_true, beq_iff_eq] at q; omega)), gSp.fr (ek kGp (fun b i q => by simp only [kGp, Bool.or_eq_true, Bool.and_eq_true, beq_iff_eq] at q; omega)), fun t ht => ?_, fun i hi => ?_, fun k hk => ?_, fun k hk => ?_⟩
    · rw [ne 7 8 (by omega) (by omega)]
      exact s2
    · rw [ne 7 1 (by omega) (by omega)]
      exact s3
    · rw [ne 20 t (by omega) (by omega)]
      exact s4 t ht
    · by_cases e : k = nR
      · exact ⟨a, by omega, by rw [e, n35]⟩
      · rw [ne 35 k (by omega) (by omega)]
        exact s5 k (by omega)
    · rw [ne 7 10 (by omega) (by omega)]
      exact s6
    · rw [ne 22 t (by omega) (by omega)]
      exact s7 t ht
    · rw [ew, ne 39 k (by omega) (by omega)]
      by_cases e : k = nR
      · rw [e, w0, (u4 nR (Nat.le_refl _)).1]
        exact ⟨rfl, by omega, fun i hi => by omega⟩
      · obtain ⟨g1, g2, g3⟩ := gW k (by omega)
        refine ⟨g1, g2, fun i hi => ?_⟩
        rw [el, ne 38 _ (by omega) (by omega)]
        exact g3 i hi
    · by_cases e : i = nR
      · rw [e, n36, n37]
        exact Or.inl ⟨rfl, Or.inl rfl⟩
      · have := gR i (by omega)
        unfold rtN at this ⊢
        rw [ne 37 i (by omega) (by omega), ne 36 i (by omega) (by omega)]
        exact this
    · rw [ne 43 k (by omega) (by omega)] at q
      obtain ⟨t, r, g1, g2, g3, g4, g5⟩ := gJ k hk q
      refine ⟨t, r, g1, by omega, by rw [ne 43 k (by omega) (by omega)]; exact g3, by rw [ne 46 k (by omega) (by omega)]; exact g4, ?_⟩
      rw [ne 81 k (by omega) (by omega), ne 80 k (by omega) (by omega), ne 37 r (by omega) (by omega), ne 36 r (by omega) (by omega)]
      rcases g5 with w | ⟨w1, w2, w3⟩ | w
      · exact Or.inl w
      · refine Or.inr (Or.inl ⟨w1, w2, fun i hi => ?_⟩)
        by_cases e : i = nR
        · rw [e, n37]
          exact hm1 t g1
        · rw [ne 37 i (by omega) (by omega)]
          exact w3 i (by omega)
      · exact Or.inr (Or.inr w)
    · by_cases e : i = nR
      · rw [e]
        exact n37
      · rw [ne 37 i (by omega) (by omega)] at y ⊢
        by_cases e2 : j = nR
        · rw [e2, n37] at y
          exact y
        · rw [ne 37 j (by omega) (by omega)] at y
          exact gT.1 i j (by omega) (by omega) hij y
    · rw [ne 43 0 (by omega) (by omega), ne 43 1 (by omega) (by omega)]
      exact gT.2.1
    · rw [ne 24 t (by omega) (by omega)] at y2
      rw [ne 43 0 (by omega) (by omega), ne 43 1 (by omega) (by omega)]
      by_cases e : i = nR
      · rw [e, n37] at y1
        exact absurd y1 (hm1 t ht)
      · rw [ne 37 i (by omega) (by omega)] at y1
        exact gT.2.2 i t (by omega) ht y1 y2
    · rw [ew]
      by_cases e : k = nR
      · rw [e, w0, n36]
        exact ⟨fun _ => rfl, fun z => absurd z (by decide), fun i hi => by omega⟩
      · obtain ⟨i1, i2, i3⟩ := gI k (by omega)
        rw [ne 36 k (by omega) (by omega), ne 37 k (by omega) (by omega), ne 41 k (by omega) (by omega)]
        refine ⟨i1, i2, fun i hi => ?_⟩
        simp only [el]
        rw [ne 26 _ (by omega) (by omega), ne 30 _ (by omega) (by omega)]
        exact i3 i hi
    · rw [ne 23 t (by omega) (by omega), ne 24 t (by omega) (by omega)]
      exact u1 t ht
    · rw [n2]
      exact u2 i hi
    · rw [n2]
      exact u3 k hk
    · rw [ne 39 k (by omega) (by omega), ne 40 k (by omega) (by omega)]
      exact u4 k (by omega)
  · exact ⟨by rw [rd_A (by omega)]; exact l1, by rw [rd_L (by omega)]; exact l2, by rw [rd_A (by omega)]; exact l3, by rw [rd_L (by omega)]; exact l4, fun i => by rw [iI 127 i 0 (by omega) (by omega)]; exact l5 i⟩
end ZRD
section ZRDb
variable {l : Launch} {D : DD} {d : Nat} {c : HP} {M N : MD} {Q : List Value → HP → Prop} {L B : Nat} {s : Nat → Int32}
theorem sp_init3 {j : Nat} (ha : mA c 3 j = true) (hf : mA c 19 j = false) (x : Int32) (H : Q [] (pm (i3C c j x) N)) : K_X3_init l D (d + 1) [.ref (ob 3 j), .int x] (pm c N) Q := by
  refine m_X3_init (lsA := [.ref (ob 3 j), .int x]) rfl (Nat.le_of_ble_eq_true rfl) ?_
  intro X h0
  apply h0
  simp only [B_X3_init_0, o_al, o_obj, o_ic, o_newa, o_pP, o_pI, o_il, o_vret, nth_0, nth_1, al_3, ix_3, wP_cm, cw_3, cats_nil, cats_cons, rf_s, rf_n, isR_r, isR_n, isR_rf, cat_i, cat_l, cat_r, cat_n, cat_rf, unl_i, unl_l, unl_r, unl_n, unl_j, unl_rf, orf_r, orf_n, orf_rf, rf_null, mA_pm, mL_pm, mP_pm, List.length_cons, List.length_nil, List.cons_append, List.nil_append, Nat.reduceAdd, Nat.reduceLeDiff, Nat.reduceLT, Nat.reduceEqDiff, Nat.zero_add, Nat.add_zero, Nat.le_refl, Nat.zero_le, true_and, and_true, true_or, or_true, false_or, or_false, reduceIte, ha, wnm_19]
  refine ⟨by decide, by decide, by decide, j, hf, ?_⟩
  simp only [o_al, o_obj, o_ic, o_newa, o_pP, o_pI, o_il, o_vret, nth_0, nth_1, al_3, ix_3, wP_cm, cw_3, cats_nil, cats_cons, rf_s, rf_n, isR_r, isR_n, isR_rf, cat_i, cat_l, cat_r, cat_n, cat_rf, unl_i, unl_l, unl_r, unl_n, unl_j, unl_rf, orf_r, orf_n, orf_rf, rf_null, mA_pm, mL_pm, mP_pm, List.length_cons, List.length_nil, List.cons_append, List.nil_append, Nat.reduceAdd, Nat.reduceLeDiff, Nat.reduceLT, Nat.reduceEqDiff, Nat.zero_add, Nat.add_zero, Nat.le_refl, Nat.zero_le, true_and, and_true, true_or, or_true, false_or, or_false, reduceIte, mA_wN, mA_wP, mA_wI, ha, false_and, and_false, isR_r, isR_rf]
  exact H
theorem readerBad_c {nR : Nat} (hR : CRd c M nR) (x : Int32) : readerBad M nR x ↔ (¬ (0 ≤ x ∧ x ≤ 39) ∨ (∃ t, t < nR ∧ mI c 3 0 t = x) ∨ nR = 3) := by
  have e : (∃ t, t < nR ∧ M.1 35 t = x) ↔ (∃ t, t < nR ∧ mI c 3 0 t = x) := ⟨fun ⟨t, h1, h2⟩ => ⟨t, h1, by rw [(hR t h1).1]; exact h2⟩, fun ⟨t, h1, h2⟩ => ⟨t, h1, by rw [← (hR t h1).1]; exact h2⟩⟩
  unfold readerBad
  rw [e]
theorem sp_reader6 (hc : SKF c) {nT nR nA : Nat} (hd : SKD c nT nR nA) (hR2 : nR ≤ 3) (hR : CRd c M nR) (h8 : mI c 6 8 0 = nI nR) (hf : mA c 3 nR = false ∧ mA c 19 nR = false) (x : Int32) (H : ∀ r c', (readerBad M nR x ∧ r = -1 ∧ c' = c) ∨ (¬ readerBad M nR x ∧ r = nI nR ∧ c' = rdC c nR x) → Q [.int r] (pm c' N)) : K_X6_reader l D (d + 2) [.ref (ob 6 0), .int x] (pm c N) Q := by
  refine m_X6_reader (lsA := [.ref (ob 6 0), .int x, jk]) rfl (Nat.le_of_ble_eq_true rfl) ?_
  intro X h0 h34 h36
  have k34 : readerBad M nR x → ∀ ls n1 n2, n1 ≤ 2 → n2 ≤ 16 → X 34 ls [] (pm c N) n1 n2 := by
    intro q ls n1 n2 _ _
    apply h34
    simp only [B_X6_reader_34, o_ic, o_iret, cats_nil, cats_cons, rf_s, rf_n, isR_r, isR_n, isR_rf, cat_i, cat_l, cat_r, cat_n, cat_rf, unl_i, unl_l, unl_r, unl_n, unl_j, unl_rf, orf_r, orf_n, orf_rf, rf_null, mA_pm, mL_pm, mP_pm, List.length_cons, List.length_nil, List.cons_append, List.nil_append, Nat.reduceAdd, Nat.reduceLeDiff, Nat.reduceLT, Nat.reduceEqDiff, Nat.zero_add, Nat.add_zero, Nat.le_refl, Nat.zero_le, true_and, and_true, true_or, or_true, false_or, or_false, reduceIte]
    exact H _ _ (Or.inl ⟨q, rfl, rfl⟩)
  apply h0
  simp only [B_X6_reader_0, o_al, o_gf, o_is, o_il, o_ic, o_if, o_alen, nth_0, lset_2, nth_1, nth_2, opS_2, opV_1, mV_6_8, al_6, cI_6, hc.a6, ix_6, mV_6_1, hc.p6_1, kd_97, ix_97, hc.l97, cats_nil, cats_cons, rf_s, rf_n, isR_r, isR_n, isR_rf, cat_i, cat_l, cat_r, cat_n, cat_rf, unl_i, unl_l, unl_r, unl_n, unl_j, unl_rf, orf_r, orf_n, orf_rf, rf_null, mA_pm, mL_pm, mP_pm, List.length_cons, List.length_nil, List.cons_append, List.nil_append, Nat.reduceAdd, Nat.reduceLeDiff, Nat.reduceLT, Nat.reduceEqDiff, Nat.zero_add, Nat.add_zero, Nat.le_refl, Nat.zero_le, true_and, and_true, true_or, or_true, false_or, or_false, reduceIte, hc.a6, h8]
  refine sp_within6 x 40 (by omega) _ (fun r hr => ?_)
  simp only [o_al, o_gf, o_is, o_il, o_ic, o_if, o_alen, nth_0, lset_2, nth_1, nth_2, opS_2, opV_1, mV_6_8, al_6, cI_6, hc.a6, ix_6, mV_6_1, hc.p6_1, kd_97, ix_97, hc.l97, cats_nil, cats_cons, rf_s, rf_n, isR_r, isR_n, isR_rf, cat_i, cat_l, cat_r, cat_n, cat_rf, unl_i, unl_l, unl_r, unl_n, unl_j, unl_rf, orf_r, orf_n, orf_rf, rf_null, mA_pm, mL_pm, mP_pm, List.length_cons, List.length_nil, List.cons_append, List.nil_append, Nat.reduceAdd, Nat.reduceLeDiff, Nat.reduceLT, Nat.reduceEqDiff, Nat.zero_add, Nat.add_zero, Nat.le_refl, Nat.zero_le, true_and, and_true, true_or, or_true, false_or, or_false, reduceIte]
  rcases hr with ⟨rfl, a, ha, rfl⟩ | ⟨rfl, hno⟩
  rotate_left
  · refine ⟨fun _ => k34 (Or.inl (fun z => ?_)) _ _ _ (by omega) (by omega), fun z => by first | exact absurd rfl z | exact absurd trivial z⟩
    obtain ⟨i, hi, e⟩ := in_nI (x := x) (n := 40) (by omega) ⟨z.1, by rw [show nI 40 - 1 = 39 by decide]; exact z.2⟩
    exact hno i hi e
  refine ⟨fun z => absurd z (by decide), fun _ => ?_⟩
  refine sp_isReaderSlot hc hd hR2 _ (fun r hr => ?_)
  simp only [o_al, o_gf, o_is, o_il, o_ic, o_if, o_alen, nth_0, lset_2, nth_1, nth_2, opS_2, opV_1, mV_6_8, al_6, cI_6, hc.a6, ix_6, mV_6_1, hc.p6_1, kd_97, ix_97, hc.l97, cats_nil, cats_cons, rf_s, rf_n, isR_r, isR_n, isR_rf, cat_i, cat_l, cat_r, cat_n, cat_rf, unl_i, unl_l, unl_r, unl_n, unl_j, unl_rf, orf_r, orf_n, orf_rf, rf_null, mA_pm, mL_pm, mP_pm, List.length_cons, List.length_nil, List.cons_append, List.nil_append, Nat.reduceAdd, Nat.reduceLeDiff, Nat.reduceLT, Nat.reduceEqDiff, Nat.zero_add, Nat.add_zero, Nat.le_refl, Nat.zero_le, true_and, and_true, true_or, or_true, false_or, or_false, reduceIte, hc.a6, hc.p6_1, hc.l97, ofN]
  rcases hr with ⟨rfl, t, t1, t2⟩ | ⟨rfl, hnh⟩
  · exact ⟨fun z => absurd z (by decide), fun _ => k34 ((readerBad_c hR _).mpr (Or.inr (Or.inl ⟨t, t1, t2⟩))) _ _ _ (by omega) (by omega)⟩
  refine ⟨fun _ => ?_, fun z => by first | exact absurd rfl z | exact absurd trivial z⟩
  refine sp_within6 (nI nR) 3 (by omega) _ (fun r hr => ?_)
  simp only [o_al, o_gf, o_is, o_il, o_ic, o_if, o_alen, nth_0, lset_2, nth_1, nth_2, opS_2, opV_1, mV_6_8, al_6, cI_6, hc.a6, ix_6, mV_6_1, hc.p6_1, kd_97, ix_97, hc.l97, cats_nil, cats_cons, rf_s, rf_n, isR_r, isR_n, isR_rf, cat_i, cat_l, cat_r, cat_n, cat_rf, unl_i, unl_l, unl_r, unl_n, unl_j, unl_rf, orf_r, orf_n, orf_rf, rf_null, mA_pm, mL_pm, mP_pm, List.length_cons, List.length_nil, List.cons_append, List.nil_append, Nat.reduceAdd, Nat.reduceLeDiff, Nat.reduceLT, Nat.reduceEqDiff, Nat.zero_add, Nat.add_zero, Nat.le_refl, Nat.zero_le, true_and, and_true, true_or, or_true, false_or, or_false, reduceIte]
  rcases hr with ⟨rfl, i, hi, ei⟩ | ⟨rfl, hno⟩
  rotate_left
  · refine ⟨fun _ => k34 (Or.inr (Or.inr ?_)) _ _ _ (by omega) (by omega), fun z => by first | exact absurd rfl z | exact absurd trivial z⟩
    rcases Nat.lt_or_ge nR 3 with z | z
    · exact absurd rfl (hno nR z)
    · omega
  rw [nI_eq_iff] at ei
  subst ei
  have hgood : ¬ readerBad M nR (nI a) := fun z => by
    rcases (readerBad_c hR _).mp z with z | z | z
    · refine z ⟨nI_pos' (by omega), ?_⟩
      rw [show (39 : Int32) = nI 39 from rfl, nI_le_iff]
      omega
    · obtain ⟨t, t1, t2⟩ := z
      exact hnh t t1 t2
    · omega
  have H' := H _ _ (Or.inr ⟨hgood, rfl, rfl⟩)
  unfold rdC at H'
  have hin : vp_in (nI nR) 3 := by have := vin (n := nR) (N := 3) hi; rw [this]; trivial
  have hcl : (nI nR).toNatClampNeg = nR := ncl (N := 3) hi
  refine ⟨fun z => absurd z (by decide), fun _ => ?_⟩
  apply h36
  simp only [B_X6_reader_36, o_al, o_gf, o_il, o_new, o_dup, o_aast, o_ic, o_ii, o_pI, o_iret, nth_0, nth_2, nth_1, opI_1, mV_6_1, al_6, hc.p6_1, kd_97, ix_97, hc.l97, hc.a6, ix_6, mV_6_8, cI_6, cw_6, cats_nil, cats_cons, rf_s, rf_n, isR_r, isR_n, isR_rf, cat_i, cat_l, cat_r, cat_n, cat_rf, unl_i, unl_l, unl_r, unl_n, unl_j, unl_rf, orf_r, orf_n, orf_rf, rf_null, mA_pm, mL_pm, mP_pm, List.length_cons, List.length_nil, List.cons_append, List.nil_append, Nat.reduceAdd, Nat.reduceLeDiff, Nat.reduceLT, Nat.reduceEqDiff, Nat.zero_add, Nat.add_zero, Nat.le_refl, Nat.zero_le, true_and, and_true, true_or, or_true, false_or, or_false, reduceIte, hc.a6, hc.p6_1, wnm_3]
  refine ⟨nR, hf.1, ?_⟩
  refine sp_init3 (j := nR) (c := wN c 3 nR 0) (by simp only [mI_wI, mJ_wI, mP_wI, mL_wI, mA_wI, mI_wJ, mJ_wJ, mP_wJ, mL_wJ, mA_wJ, uI_1, uI_2, uJ_1, uJ_2, Nat.reduceEqDiff, false_and, and_false, true_and, and_true, reduceIte, mI_wP, mJ_wP, mL_wP, mA_wP, mI_wN, mJ_wN, mP_wN, mL_wN, mA_wN]) (by simp only [mI_wI, mJ_wI, mP_wI, mL_wI, mA_wI, mI_wJ, mJ_wJ, mP_wJ, mL_wJ, mA_wJ, uI_1, uI_2, uJ_1, uJ_2, Nat.reduceEqDiff, false_and, and_false, true_and, and_true, reduceIte, mI_wP, mJ_wP, mL_wP, mA_wP, mI_wN, mJ_wN, mP_wN, mL_wN, mA_wN]; exact hf.2) (nI a) ?_
  have e6 : mA (i3C (wN c 3 nR 0) nR (nI a)) 6 0 = true := by unfold i3C; simp only [mI_wI, mJ_wI, mP_wI, mL_wI, mA_wI, mI_wJ, mJ_wJ, mP_wJ, mL_wJ, mA_wJ, uI_1, uI_2, uJ_1, uJ_2, Nat.reduceEqDiff, false_and, and_false, true_and, and_true, reduceIte, mI_wP, mJ_wP, mL_wP, mA_wP, mI_wN, mJ_wN, mP_wN, mL_wN, mA_wN]; exact hc.a6
  have el : mL (i3C (wN c 3 nR 0) nR (nI a)) 97 0 = 3 := by unfold i3C; simp only [mI_wI, mJ_wI, mP_wI, mL_wI, mA_wI, mI_wJ, mJ_wJ, mP_wJ, mL_wJ, mA_wJ, uI_1, uI_2, uJ_1, uJ_2, Nat.reduceEqDiff, false_and, and_false, true_and, and_true, reduceIte, mI_wP, mJ_wP, mL_wP, mA_wP, mI_wN, mJ_wN, mP_wN, mL_wN, mA_wN]; exact hc.l97
  have e8 : mI (i3C (wN c 3 nR 0) nR (nI a)) 6 8 0 = nI nR := by unfold i3C; simp only [mI_wI, mJ_wI, mP_wI, mL_wI, mA_wI, mI_wJ, mJ_wJ, mP_wJ, mL_wJ, mA_wJ, uI_1, uI_2, uJ_1, uJ_2, Nat.reduceEqDiff, false_and, and_false, true_and, and_true, reduceIte, mI_wP, mJ_wP, mL_wP, mA_wP, mI_wN, mJ_wN, mP_wN, mL_wN, mA_wN]; exact h8
  simp only [o_al, o_gf, o_il, o_new, o_dup, o_aast, o_ic, o_ii, o_pI, o_iret, nth_0, nth_2, nth_1, opI_1, mV_6_1, al_6, hc.p6_1, kd_97, ix_97, hc.l97, hc.a6, ix_6, mV_6_8, cI_6, cw_6, cats_nil, cats_cons, rf_s, rf_n, isR_r, isR_n, isR_rf, cat_i, cat_l, cat_r, cat_n, cat_rf, unl_i, unl_l, unl_r, unl_n, unl_j, unl_rf, orf_r, orf_n, orf_rf, rf_null, mA_pm, mL_pm, mP_pm, List.length_cons, List.length_nil, List.cons_append, List.nil_append, Nat.reduceAdd, Nat.reduceLeDiff, Nat.reduceLT, Nat.reduceEqDiff, Nat.zero_add, Nat.add_zero, Nat.le_refl, Nat.zero_le, true_and, and_true, true_or, or_true, false_or, or_false, reduceIte, kd_3, kd_97, ix_97, e6, el, e8, hin, hcl, mA_wP, mI_wP, wP_cm, nI_1]
  exact H'
theorem op_reader (h : INB L s c M B) (x : Int32) (H : ∀ r c1, PRE L s c1 → (∀ Q' : List Value → HP → Prop, (∀ M', INB L s c1 M' B → Q' [.int r] (pm c1 M')) → K_X7_reader l D (d + 20) [.ref (ob 7 0), .int x] (pm c1 M) Q') → Q [.int r] (pm c1 M)) : K_X6_reader l D (d + 20) [.ref (ob 6 0), .int x] (pm c M) Q := by
  obtain ⟨nw, hB, nT, nR, nA, hT2, hR2, hA2, hC, hG, hN, hL⟩ := id h
  obtain ⟨c1, c2, c3, c4, ⟨c5, c6, c7⟩, c8, c9⟩ := id hC
  refine sp_reader6 c1 c2 hR2 c4.1.2.2.2.1 c6 (c9.2.1 nR (Nat.le_refl _)) x (fun r c' hr => ?_)
  rcases hr with ⟨k1, rfl, rfl⟩ | ⟨k1, rfl, rfl⟩
  · refine H _ _ ⟨c3, hL⟩ (fun Q' H' => ?_)
    refine sp_reader c3 hG.1.1 hR2 x (fun r' M' hr' => ?_)
    rcases hr' with ⟨-, rfl, g⟩ | ⟨q, -⟩
    · exact H' _ (h.sc g)
    · exact absurd k1 q
  · have b1 := Decidable.not_not.mp (fun z => k1 (Or.inl z))
    have b3 : ¬ nR = 3 := fun z => k1 (Or.inr (Or.inr z))
    obtain ⟨a, a1, rfl⟩ := in_nI (x := x) (n := 40) (by omega) ⟨b1.1, by rw [show nI 40 - 1 = 39 by decide]; exact b1.2⟩
    obtain ⟨g1, g2, g3⟩ := CPL.reader (by omega) hT2 hC hG hL a1
    refine H _ _ ⟨g1.2.2.1, g3⟩ (fun Q' H' => ?_)
    refine sp_reader g1.2.2.1 hG.1.1 hR2 (nI a) (fun r' M' hr' => ?_)
    rcases hr' with ⟨q, -⟩ | ⟨-, rfl, g⟩
    · exact absurd q k1
    · refine H' _ (INB.sc ⟨nw, hB, nT, nR + 1, nA, hT2, by omega, hA2, g1, g2, hN.fr ?_, g3⟩ g)
      have ek : ∀ f : Nat → Nat → Bool, (∀ b i, f b i = true → ¬ (b = 35 ∨ b = 36 ∨ b = 37 ∨ (b = 7 ∧ i = 26))) → EK f M (readerM M nR (nI a)) := fun f q b i z => by
        have := q b i z
        unfold readerM
        rw [uI_1, if_neg (by omega), uI_1, if_neg (by omega), uI_1, if_neg (by omega), uI_1, if_neg (by omega)]
      exact (ek kTM (fun b i q => by simp only [kTM, Bool.or_eq_true, Bool.and_eq_true, beq_iff_eq] at q; omega))
end ZRDb
