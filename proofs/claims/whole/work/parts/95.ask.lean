/-! Class and model: ask -/
def i1C (c : HP) (j : Nat) (k x a b m : Int32) : HP := wI (wI (wI (wI (wI (wI (wI c 1 7 j 0) 1 8 j (-1)) 1 0 j k) 1 1 j x) 1 2 j a) 1 3 j b) 1 4 j m
def akC (c : HP) (j : Nat) (k : Int32) (t : Nat) (a b : Int32) (p : Nat) (m : Int32) : HP := wI (wP (rchC (i1C (wN c 1 j 0) j k (nI t) a b m) j (nI p)) 98 j 0 (some (ob 1 j))) 6 9 0 (nI (j + 1))
section ZAK
variable {c : HP} {M : MD} {nT nR nA nw L : Nat} {s : Nat → Int32} {j t p : Nat} {k a b m : Int32}
theorem ak_I {x y e : Nat} (h : ¬ (x = 1 ∧ e = j)) : mI (akC c j k t a b p m) x y e = if x = 6 ∧ y = 9 ∧ e = 0 then nI (j + 1) else mI c x y e := by
  unfold akC rchC i1C
  rw [mI_wI, mI_wP]
  by_cases q : x = 6 ∧ y = 9 ∧ e = 0
  · rw [if_pos q, if_pos q]
  · rw [if_neg q, if_neg q, mI_wI, if_neg (by omega), mI_wI, if_neg (by omega), mI_wI, if_neg (by omega), mI_wI, if_neg (by omega), mI_wI, if_neg (by omega), mI_wI, if_neg (by omega), mI_wI, if_neg (by omega), mI_wI, if_neg (by omega), mI_wI, if_neg (by omega), mI_wN, if_neg (by omega)]
theorem ak_v : mI (akC c j k t a b p m) 1 0 j = k ∧ mI (akC c j k t a b p m) 1 1 j = nI t ∧ mI (akC c j k t a b p m) 1 2 j = a ∧ mI (akC c j k t a b p m) 1 3 j = b ∧ mI (akC c j k t a b p m) 1 4 j = m ∧ mI (akC c j k t a b p m) 1 5 j = (if k = 3 then 0 else a) ∧ mI (akC c j k t a b p m) 1 6 j = (if k = 3 then nI p - 1 else if k = 1 then b else a) ∧ mI (akC c j k t a b p m) 1 7 j = 0 ∧ mI (akC c j k t a b p m) 1 8 j = -1 := by
  unfold akC rchC i1C
  simp only [mI_wI, mJ_wI, mP_wI, mL_wI, mA_wI, mI_wJ, mJ_wJ, mP_wJ, mL_wJ, mA_wJ, uI_1, uI_2, uJ_1, uJ_2, Nat.reduceEqDiff, false_and, and_false, true_and, and_true, reduceIte, mI_wP, mJ_wP, mL_wP, mA_wP, mI_wN, mJ_wN, mP_wN, mL_wN, mA_wN]
theorem ak_J (x y e : Nat) (h : ¬ (x = 1 ∧ e = j)) : mJ (akC c j k t a b p m) x y e = mJ c x y e := by
  unfold akC rchC i1C
  simp only [mI_wI, mJ_wI, mP_wI, mL_wI, mA_wI, mI_wJ, mJ_wJ, mP_wJ, mL_wJ, mA_wJ, uI_1, uI_2, uJ_1, uJ_2, Nat.reduceEqDiff, false_and, and_false, true_and, and_true, reduceIte, mI_wP, mJ_wP, mL_wP, mA_wP, mI_wN, mJ_wN, mP_wN, mL_wN, mA_wN]
  rw [if_neg (by omega)]
theorem ak_J1 (y : Nat) : mJ (akC c j k t a b p m) 1 y j = 0 := by
  unfold akC rchC i1C
  simp only [mI_wI, mJ_wI, mP_wI, mL_wI, mA_wI, mI_wJ, mJ_wJ, mP_wJ, mL_wJ, mA_wJ, uI_1, uI_2, uJ_1, uJ_2, Nat.reduceEqDiff, false_and, and_false, true_and, and_true, reduceIte, mI_wP, mJ_wP, mL_wP, mA_wP, mI_wN, mJ_wN, mP_wN, mL_wN, mA_wN]
theorem ak_P {x y e : Nat} (h : ¬ (x = 1 ∧ e = j)) : mP (akC c j k t a b p m) x y e = if x = 98 ∧ y = j ∧ e = 0 then some (ob 1 j) else mP c x y e := by
  unfold akC rchC i1C
  rw [mP_wI, mP_wP]
  by_cases q : x = 98 ∧ y = j ∧ e = 0
  · rw [if_pos q, if_pos q]
  · rw [if_neg q, if_neg q]
    simp only [mI_wI, mJ_wI, mP_wI, mL_wI, mA_wI, mI_wJ, mJ_wJ, mP_wJ, mL_wJ, mA_wJ, uI_1, uI_2, uJ_1, uJ_2, Nat.reduceEqDiff, false_and, and_false, true_and, and_true, reduceIte, mI_wP, mJ_wP, mL_wP, mA_wP, mI_wN, mJ_wN, mP_wN, mL_wN, mA_wN]
    rw [if_neg (by omega)]
theorem ak_A {x e : Nat} (h : ¬ (x = 1 ∧ e = j)) : mA (akC c j k t a b p m) x e = mA c x e := by
  unfold akC rchC i1C
  simp only [mI_wI, mJ_wI, mP_wI, mL_wI, mA_wI, mI_wJ, mJ_wJ, mP_wJ, mL_wJ, mA_wJ, uI_1, uI_2, uJ_1, uJ_2, Nat.reduceEqDiff, false_and, and_false, true_and, and_true, reduceIte, mI_wP, mJ_wP, mL_wP, mA_wP, mI_wN, mJ_wN, mP_wN, mL_wN, mA_wN]
  rw [if_neg (by omega)]
theorem ak_A1 : mA (akC c j k t a b p m) 1 j = true := by
  unfold akC rchC i1C
  simp only [mI_wI, mJ_wI, mP_wI, mL_wI, mA_wI, mI_wJ, mJ_wJ, mP_wJ, mL_wJ, mA_wJ, uI_1, uI_2, uJ_1, uJ_2, Nat.reduceEqDiff, false_and, and_false, true_and, and_true, reduceIte, mI_wP, mJ_wP, mL_wP, mA_wP, mI_wN, mJ_wN, mP_wN, mL_wN, mA_wN]
theorem ak_L {x e : Nat} (h : ¬ (x = 1 ∧ e = j)) : mL (akC c j k t a b p m) x e = mL c x e := by
  unfold akC rchC i1C
  simp only [mI_wI, mJ_wI, mP_wI, mL_wI, mA_wI, mI_wJ, mJ_wJ, mP_wJ, mL_wJ, mA_wJ, uI_1, uI_2, uJ_1, uJ_2, Nat.reduceEqDiff, false_and, and_false, true_and, and_true, reduceIte, mI_wP, mJ_wP, mL_wP, mA_wP, mI_wN, mJ_wN, mP_wN, mL_wN, mA_wN]
  rw [if_neg (by omega)]
def wAk (j : Nat) : Nat → Nat → Nat → Prop := fun x y e => (x = 1 ∧ e = j) ∨ (x = 6 ∧ y = 9 ∧ e = 0)
theorem ak_q : QI (wAk j) c (akC c j k t a b p m) := fun x y e q => by
  unfold wAk at q
  rw [ak_I (by omega), if_neg (by omega)]
theorem ak_skf (h : SKF c) : SKF (akC c j k t a b p m) := by
  refine SKF.of (fun k e q => ak_A ?_) (fun k e q => ak_L ?_) (fun k i e q => ?_) h
  · simp only [SKF_A, Bool.or_eq_true, beq_iff_eq] at q
    omega
  · simp only [SKF_L, Bool.or_eq_true, beq_iff_eq] at q
    omega
  · simp only [SKF_P, Bool.or_eq_true, beq_iff_eq] at q
    rw [ak_P (by omega), if_neg (by omega)]
theorem ak_skd (hA : nA < 150) (h : SKD c nT nR nA) : SKD (akC c nA k t a b p m) nT nR (nA + 1) := by
  obtain ⟨d1, d2, d3, d4, d5, d6⟩ := h
  refine ⟨fun i hi => ?_, fun i hi => ?_, fun i hi => ?_, fun t ht => ?_, fun k hk => ?_, fun k hk => ?_⟩
  · rw [ak_P (by omega), if_neg (by omega)]
    exact d1 i hi
  · rw [ak_P (by omega), if_neg (by omega)]
    exact d2 i hi
  · rw [ak_P (by omega)]
    by_cases e : i = nA
    · rw [if_pos ⟨rfl, e, rfl⟩, if_pos (by omega), e]
    · rw [if_neg (by omega), d3 i hi]
      by_cases z : i < nA
      · rw [if_pos z, if_pos (by omega)]
      · rw [if_neg z, if_neg (by omega)]
  · rw [ak_A (by omega)]
    exact d4 t ht
  · rw [ak_A (by omega), ak_P (by omega), if_neg (by omega), ak_L (by omega)]
    exact d5 k hk
  · by_cases e : k = nA
    · rw [e]
      exact ak_A1
    · rw [ak_A (by omega)]
      exact d6 k (by omega)
theorem ageF_c {M' : MD} (g : Bool) : ∀ n, (∀ i, i < n → M'.1 29 i = M.1 29 i ∧ M'.1 31 i = M.1 31 i) → ageF M' g n = ageF M g n
  | 0, _ => rfl
  | n + 1, h => by
    unfold ageF
    rw [ageF_c g n (fun i hi => h i (by omega)), (h n (by omega)).1, (h n (by omega)).2]
theorem CPL.ask (hT2 : nT ≤ 12) (hR2 : nR ≤ 3) (hA : nA < 150) (hC : CPL c M nT nR nA) (hG : GMI M nT nR nA) (hN : TMI M nA nw) (hL : LEV L s c) (ht : t < nT) (hp : M.1 22 t = nI p) (hp2 : p ≤ 60) (hi : askIs M k a b t) : CPL (cwC (akC c nA k t a b p (M.1 7 9)) nA t 1) (askM M nA k (nI t) a b) nT nR (nA + 1) ∧ GMI (askM M nA k (nI t) a b) nT nR (nA + 1) ∧ TMI (askM M nA k (nI t) a b) (nA + 1) nw ∧ LEV L s (cwC (akC c nA k t a b p (M.1 7 9)) nA t 1) := by
  obtain ⟨c1, c2, c3, c4, ⟨c5, c6, c7⟩, c8, c9⟩ := hC
  obtain ⟨⟨a1, a2, a3, a4, a5, a6, a7, a8⟩, b1, b2, b3, b4⟩ := c4
  obtain ⟨⟨s1, s2, s3, s4, s5, s6, s7⟩, gA, gH, gW, gR, gJ, gT, gI, gD, gSp, u1, u2, u3, u4⟩ := hG
  obtain ⟨l1, l2, l3, l4, l5⟩ := hL
  obtain ⟨N, hN'⟩ : ∃ N, N = askM M nA k (nI t) a b := ⟨_, rfl⟩
  have ne : ∀ b i, ¬ ((25 ≤ b ∧ b ≤ 31) ∧ i = nA) → ¬ (b = 7 ∧ i = 8) → N.1 b i = M.1 b i := fun b i q q2 => by
    rw [hN']
    unfold askM
    rw [uI_1, if_neg (by omega), uI_1, if_neg (by omega), uI_1, if_neg (by omega), uI_1, if_neg (by omega), uI_1, if_neg (by omega), uI_1, if_neg (by omega), uI_1, if_neg (by omega), uI_1, if_neg (by omega)]
  have n25 : N.1 25 nA = k := by rw [hN']; unfold askM; simp only [mI_wI, mJ_wI, mP_wI, mL_wI, mA_wI, mI_wJ, mJ_wJ, mP_wJ, mL_wJ, mA_wJ, uI_1, uI_2, uJ_1, uJ_2, Nat.reduceEqDiff, false_and, and_false, true_and, and_true, reduceIte]
  have n26 : N.1 26 nA = nI t := by rw [hN']; unfold askM; simp only [mI_wI, mJ_wI, mP_wI, mL_wI, mA_wI, mI_wJ, mJ_wJ, mP_wJ, mL_wJ, mA_wJ, uI_1, uI_2, uJ_1, uJ_2, Nat.reduceEqDiff, false_and, and_false, true_and, and_true, reduceIte]
  have n27 : N.1 27 nA = a := by rw [hN']; unfold askM; simp only [mI_wI, mJ_wI, mP_wI, mL_wI, mA_wI, mI_wJ, mJ_wJ, mP_wJ, mL_wJ, mA_wJ, uI_1, uI_2, uJ_1, uJ_2, Nat.reduceEqDiff, false_and, and_false, true_and, and_true, reduceIte]
  have n28 : N.1 28 nA = b := by rw [hN']; unfold askM; simp only [mI_wI, mJ_wI, mP_wI, mL_wI, mA_wI, mI_wJ, mJ_wJ, mP_wJ, mL_wJ, mA_wJ, uI_1, uI_2, uJ_1, uJ_2, Nat.reduceEqDiff, false_and, and_false, true_and, and_true, reduceIte]
  have n29 : N.1 29 nA = M.1 7 9 := by rw [hN']; unfold askM; simp only [mI_wI, mJ_wI, mP_wI, mL_wI, mA_wI, mI_wJ, mJ_wJ, mP_wJ, mL_wJ, mA_wJ, uI_1, uI_2, uJ_1, uJ_2, Nat.reduceEqDiff, false_and, and_false, true_and, and_true, reduceIte]
  have n30 : N.1 30 nA = 0 := by rw [hN']; unfold askM; simp only [mI_wI, mJ_wI, mP_wI, mL_wI, mA_wI, mI_wJ, mJ_wJ, mP_wJ, mL_wJ, mA_wJ, uI_1, uI_2, uJ_1, uJ_2, Nat.reduceEqDiff, false_and, and_false, true_and, and_true, reduceIte]
  have n31 : N.1 31 nA = -1 := by rw [hN']; unfold askM; simp only [mI_wI, mJ_wI, mP_wI, mL_wI, mA_wI, mI_wJ, mJ_wJ, mP_wJ, mL_wJ, mA_wJ, uI_1, uI_2, uJ_1, uJ_2, Nat.reduceEqDiff, false_and, and_false, true_and, and_true, reduceIte]
  have n78 : N.1 7 8 = nI (nA + 1) := by rw [hN']; unfold askM; simp only [mI_wI, mJ_wI, mP_wI, mL_wI, mA_wI, mI_wJ, mJ_wJ, mP_wJ, mL_wJ, mA_wJ, uI_1, uI_2, uJ_1, uJ_2, Nat.reduceEqDiff, false_and, and_false, true_and, and_true, reduceIte]
  have n2 : N.2 = M.2 := by rw [hN']; rfl
  have n22 : ∀ i, N.1 22 i = M.1 22 i := fun i => ne 22 i (by omega) (by omega)
  have ek : ∀ f : Nat → Nat → Bool, (∀ b i, f b i = true → ¬ ((25 ≤ b ∧ b ≤ 31) ∨ (b = 7 ∧ i = 8))) → EK f M N := fun f q b i z => ne b i (fun w => q b i z (by omega)) (fun w => q b i z (by omega))
  have efr : ∀ i, i < nA → fromF N i = fromF M i := fun i hi => by unfold fromF; rw [ne 25 i (by omega) (by omega), ne 27 i (by omega) (by omega)]
  have eto : ∀ i, i < nA → toF N i = toF M i := fun i hi => by unfold toF; rw [ne 25 i (by omega) (by omega), ne 26 i (by omega) (by omega), ne 27 i (by omega) (by omega), ne 28 i (by omega) (by omega), n22]
  have vfr : fromF N nA = if k = 3 then 0 else a := by unfold fromF; rw [n25, n27]
  have vto : toF N nA = if k = 3 then nI p - 1 else if k = 1 then b else a := by unfold toF; rw [n25, n26, n27, n28, n22, ncl (n := t) (N := 13) (by omega), hp]
  obtain ⟨p', hp0, hp1, hpe⟩ := s7 t ht
  have hpp : p' = p := by
    rw [hp, nI_eq_iff] at hpe
    exact hpe.symm
  subst hpp
  obtain ⟨C, hCe⟩ : ∃ C, C = akC c nA k t a b p' (M.1 7 9) := ⟨_, rfl⟩
  obtain ⟨v0, v1, v2, v3, v4, v5, v6, v7, v8⟩ : mI C 1 0 nA = k ∧ mI C 1 1 nA = nI t ∧ mI C 1 2 nA = a ∧ mI C 1 3 nA = b ∧ mI C 1 4 nA = M.1 7 9 ∧ mI C 1 5 nA = (if k = 3 then 0 else a) ∧ mI C 1 6 nA = (if k = 3 then nI p' - 1 else if k = 1 then b else a) ∧ mI C 1 7 nA = 0 ∧ mI C 1 8 nA = -1 := by rw [hCe]; exact ak_v
  have hq : QI (wAk nA) c C := by rw [hCe]; exact ak_q
  have hA1 : ∀ x e, ¬ (x = 1 ∧ e = nA) → mA C x e = mA c x e := fun x e q => by rw [hCe]; exact ak_A q
  have hL1 : ∀ x e, ¬ (x = 1 ∧ e = nA) → mL C x e = mL c x e := fun x e q => by rw [hCe]; exact ak_L q
  have hP1 : ∀ x y e, ¬ (x = 1 ∧ e = nA) → ¬ (x = 98) → mP C x y e = mP c x y e := fun x y e q q2 => by rw [hCe, ak_P q, if_neg (by omega)]
  have hJ1 : ∀ x y e, ¬ (x = 1 ∧ e = nA) → mJ C x y e = mJ c x y e := fun x y e q => by rw [hCe]; exact ak_J x y e q
  have hJ0 : mJ C 1 9 nA = 0 := by rw [hCe]; exact ak_J1 9
  have hK : SKF C := by rw [hCe]; exact ak_skf c1
  have hS : SKD C nT nR (nA + 1) := by rw [hCe]; exact ak_skd hA c2
  have h69 : mI C 6 9 0 = nI (nA + 1) := by rw [hCe, ak_I (by omega), if_pos ⟨rfl, rfl, rfl⟩]
  have hcw := cw_q C nA t 1
  rw [← hN', ← hCe]
  clear hCe hN'
  have hF : QI (fun x y e => wAk nA x y e ∨ (x = 6 ∧ 13 ≤ y ∧ y ≤ 15) ∨ (x = 5 ∧ 7 ≤ y)) c (cwC C nA t 1) := fun x y e q => by rw [hcw.I (fun z => q (Or.inr z)), hq x y e (fun z => q (Or.inl z))]
  refine ⟨⟨hcw.sk hK, hcw.skd hS, ?_, ⟨⟨?_, ?_, ?_, ?_, ?_, ?_, ?_, ?_⟩, ?_, Or.inl (cwC_13 _ _ _ _), ?_, ?_⟩, ?_, ?_, ?_⟩, ?_, ?_, ?_⟩
  · refine hcw.j.skm (SKM.of (fun k e q => hA1 k e ?_) (fun k e q => hL1 k e ?_) (fun k i e q => hP1 k i e ?_ ?_) c3)
    · simp only [SKM_A, beq_iff_eq] at q
      omega
    · simp only [SKM_L, Bool.or_eq_true, beq_iff_eq] at q
      omega
    · simp only [SKM_P, beq_iff_eq] at q
      omega
    · simp only [SKM_P, beq_iff_eq] at q
      omega
  · intro i hi2
    have g : ∀ f, mI (cwC C nA t 1) 1 f i = mI C 1 f i := fun f => hcw.I (fun z => by omega)
    have gj : mJ (cwC C nA t 1) 1 9 i = mJ C 1 9 i := hcw.J 1 9 i
    rw [g, g, g, g, g, g, g, g, g, gj]
    by_cases e : i = nA
    · subst e
      rw [v0, v1, v2, v3, v4, v5, v6, v7, v8, hJ0, n25, n26, n27, n28, n29, n30, n31, n2, u3 i (Nat.le_refl _), vfr, vto]
      exact ⟨rfl, rfl, rfl, rfl, rfl, rfl, rfl, rfl, rfl, rfl⟩
    · have g2 : ∀ f, mI C 1 f i = mI c 1 f i := fun f => hq _ _ _ (fun z => by unfold wAk at z; omega)
      rw [g2, g2, g2, g2, g2, g2, g2, g2, g2, hJ1 _ _ _ (by omega), efr i (by omega), eto i (by omega), n2, ne 25 i (by omega) (by omega), ne 26 i (by omega) (by omega), ne 27 i (by omega) (by omega), ne 28 i (by omega) (by omega), ne 29 i (by omega) (by omega), ne 30 i (by omega) (by omega), ne 31 i (by omega) (by omega)]
      exact a1 i (by omega)
  · exact a2.fr hF (fun i j hi z => by unfold wAk at z; omega) (ek kT (fun b i q => by simp only [kT, Bool.or_eq_true, Bool.and_eq_true, beq_iff_eq] at q; omega))
  · obtain ⟨w1, w2, w3⟩ := a3
    have f : ∀ x y e, ¬ wAk nA x y e → mI C x y e = mI c x y e := hq
    have q1 : cn (fun i => decide (N.1 30 i = 0 ∧ ¬ N.1 25 i = 3)) nA = cn (fun i => decide (M.1 30 i = 0 ∧ ¬ M.1 25 i = 3)) nA := cn_cong nA (fun i hi => by rw [ne 30 i (by omega) (by omega), ne 25 i (by omega) (by omega)])
    have q2 : cn (fun i => decide (N.1 30 i = 0 ∧ N.1 25 i = 3)) nA = cn (fun i => decide (M.1 30 i = 0 ∧ M.1 25 i = 3)) nA := cn_cong nA (fun i hi => by rw [ne 30 i (by omega) (by omega), ne 25 i (by omega) (by omega)])
    have q3 : ∀ u, cn (wcl N u) nA = cn (wcl M u) nA := fun u => cn_cong nA (fun i hi => by unfold wcl; rw [ne 30 i (by omega) (by omega), ne 25 i (by omega) (by omega), ne 26 i (by omega) (by omega)])
    have q4 : ∀ u, sm (crd N u) nA = sm (crd M u) nA := fun u => sm_cong nA (fun i hi => by unfold crd; rw [ne 30 i (by omega) (by omega), ne 25 i (by omega) (by omega), ne 26 i (by omega) (by omega), ne 29 i (by omega) (by omega)])
    have f14 : mI C 6 14 0 = mI c 6 14 0 := f _ _ _ (fun z => by unfold wAk at z; omega)
    have f15 : mI C 6 15 0 = mI c 6 15 0 := f _ _ _ (fun z => by unfold wAk at z; omega)
    have f57 : ∀ u, mI C 5 7 u = mI c 5 7 u := fun u => f _ _ _ (fun z => by unfold wAk at z; omega)
    have f58 : ∀ u, mI C 5 8 u = mI c 5 8 u := fun u => f _ _ _ (fun z => by unfold wAk at z; omega)
    refine ⟨?_, ?_, fun u hu => ?_⟩
    · rw [nI_cn, q1, ← w1, n30, n25]
      unfold cwC
      rw [v0]
      by_cases z : k = 3
      · rw [if_pos z]
        simp only [mI_wI, mJ_wI, mP_wI, mL_wI, mA_wI, mI_wJ, mJ_wJ, mP_wJ, mL_wJ, mA_wJ, uI_1, uI_2, uJ_1, uJ_2, Nat.reduceEqDiff, false_and, and_false, true_and, and_true, reduceIte, z]
        rw [f14]
        simp
      · rw [if_neg z]
        simp only [mI_wI, mJ_wI, mP_wI, mL_wI, mA_wI, mI_wJ, mJ_wJ, mP_wJ, mL_wJ, mA_wJ, uI_1, uI_2, uJ_1, uJ_2, Nat.reduceEqDiff, false_and, and_false, true_and, and_true, reduceIte, z]
        rw [f14]
        simp
    · rw [nI_cn, q2, ← w2, n30, n25]
      unfold cwC
      rw [v0]
      by_cases z : k = 3
      · rw [if_pos z]
        simp only [mI_wI, mJ_wI, mP_wI, mL_wI, mA_wI, mI_wJ, mJ_wJ, mP_wJ, mL_wJ, mA_wJ, uI_1, uI_2, uJ_1, uJ_2, Nat.reduceEqDiff, false_and, and_false, true_and, and_true, reduceIte, z]
        rw [f15]
        simp
      · rw [if_neg z]
        simp only [mI_wI, mJ_wI, mP_wI, mL_wI, mA_wI, mI_wJ, mJ_wJ, mP_wJ, mL_wJ, mA_wJ, uI_1, uI_2, uJ_1, uJ_2, Nat.reduceEqDiff, false_and, and_false, true_and, and_true, reduceIte, z]
        rw [f15]
        simp
    · show mI (cwC C nA t 1) 5 7 u = nI (cn (wcl N u) (nA + 1)) ∧ mI (cwC C nA t 1) 5 8 u = sm (crd N u) nA + crd N u nA
      rw [nI_cn, q3, q4, ← (w3 u hu).1, ← (w3 u hu).2]
      have ewc : wcl N u nA = decide (nI t = nI u ∧ ¬ k = 3) := by unfold wcl; rw [n26, n30, n25]; simp
      have ecr : crd N u nA = if nI t = nI u ∧ ¬ k = 3 then (if k = 4 then 100 else 10) - M.1 7 9 else 0 := by unfold crd; rw [n26, n30, n25, n29]; simp
      rw [ewc, ecr]
      unfold cwC
      rw [v0, v4]
      by_cases z : k = 3
      · rw [if_pos z]
        simp only [mI_wI, mJ_wI, mP_wI, mL_wI, mA_wI, mI_wJ, mJ_wJ, mP_wJ, mL_wJ, mA_wJ, uI_1, uI_2, uJ_1, uJ_2, Nat.reduceEqDiff, false_and, and_false, true_and, and_true, reduceIte, z]
        rw [f57, f58]
        simp
      · rw [if_neg z]
        simp only [mI_wI, mJ_wI, mP_wI, mL_wI, mA_wI, mI_wJ, mJ_wJ, mP_wJ, mL_wJ, mA_wJ, uI_1, uI_2, uJ_1, uJ_2, Nat.reduceEqDiff, false_and, and_false, true_and, and_true, reduceIte]
        by_cases e : u = t
        · subst e
          rw [f57, f58]
          simp [z]
        · have e2 : ¬ nI t = nI u := fun y => e (by rw [nI_eq_iff] at y; exact y.symm)
          simp [e, e2, f57, f58]
  · exact a4.fr hF (fun i j z => by unfold wAk at z; omega) (fun i j z => by unfold wAk at z; omega) (ek kR (fun b i q => by simp only [kR, Bool.or_eq_true, Bool.and_eq_true, beq_iff_eq] at q; omega))
  · exact a5.fr hF (fun i j _ z => by unfold wAk at z; omega) (ek kJ (fun b i q => by simp only [kJ, Bool.or_eq_true, Bool.and_eq_true, beq_iff_eq] at q; omega))
  · rw [hF _ _ _ (fun z => by unfold wAk at z; omega), ne 7 9 (by omega) (by omega)]
    exact a6
  · rw [hF _ _ _ (fun z => by unfold wAk at z; omega), ne 7 10 (by omega) (by omega)]
    exact a7
  · rw [hF _ _ _ (fun z => by unfold wAk at z; omega), ne 7 11 (by omega) (by omega)]
    exact a8
  · exact b1.fr (fun j => by rw [hcw.P, hP1 _ _ _ (by omega) (by omega)]) (fun j => by rw [hcw.L, hL1 _ _ (by omega)]) (fun i j => by rw [hcw.J, hJ1 _ _ _ (by omega)]) (fun t => ne 21 t (by omega) (by omega)) (fun t => n22 t) (fun i => by rw [n2])
  · have e : ∀ g, ageF N g (nA + 1) = ageF M g nA := fun g => by
      show (if N.1 31 nA = -1 then ageF N g nA else _) = _
      rw [if_pos n31]
      exact ageF_c g nA (fun i hi => ⟨ne 29 i (by omega) (by omega), ne 31 i (by omega) (by omega)⟩)
    unfold AGC
    rw [e, e, hF _ _ _ (fun z => by unfold wAk at z; omega), hF _ _ _ (fun z => by unfold wAk at z; omega)]
    exact b3
  · exact b4.fr hF (fun j z => by unfold wAk at z; omega) (ne 7 41 (by omega) (by omega))
  · refine ⟨?_, ?_, ?_⟩
    · rw [hF _ _ _ (fun z => by unfold wAk at z; omega)]
      exact c5
    · rw [hF _ _ _ (fun z => by unfold wAk at z; omega)]
      exact c6
    · rw [hcw.I (fun z => by omega)]
      exact h69
  · exact c8.q hF (by rw [hcw.J, hJ1 _ _ _ (by omega)]) (fun a i j z => by unfold wAk at z; omega) (ek kI (fun b i q => by simp only [kI, Bool.or_eq_true, Bool.and_eq_true, beq_iff_eq] at q; omega))
  · refine ⟨fun t ht => ?_, fun k hk => ?_, fun k hk => ?_⟩
    · rw [hcw.A, hcw.A, hA1 _ _ (by omega), hA1 _ _ (by omega)]
      exact c9.1 t ht
    · rw [hcw.A, hcw.A, hA1 _ _ (by omega), hA1 _ _ (by omega)]
      exact c9.2.1 k hk
    · rw [hcw.A, hA1 _ _ (by omega)]
      exact c9.2.2 k (by omega)
  · have ew : ∀ k, wkN N k = wkN M k := fun k => by unfold wkN; rw [ne 39 k (by omega) (by omega)]
    have el : ∀ k i, wkL N k i = wkL M k i := fun k i => by unfold wkL; rw [ne 38 _ (by omega) (by omega)]
    refine ⟨⟨?_, n78, ?_, fun t ht => ?_, fun k hk => ?_, ?_, fun t ht => ?_⟩, fun i hi2 => ?_, gH.fr (ek kGH (fun b i q => by simp only [kGH, Bool.or_eq_true, Bool.and_eq_true, beq_iff_eq] at q; omega)), fun k hk => ?_, gR.fr (ek kGR (fun b i q => by simp only [kGR, Bool.or_eq_true, Bool.and_eq_true, beq_iff_eq] at q; omega)), gJ.fr (ek kGJ (fun b i q => by simp only [kGJ, Bool.or_eq_true, Bool.and_eq_true, beq_iff_eq] at q; omega)), gT.fr (ek kGT (fun b i q => by simp only [kGT, Bool.or_eq_true, Bool.and_eq_true, beq_iff_eq] at q; omega)), fun k hk => ?_, fun i hi2 => ?_, gSp.fr (ek kGp (fun b i q => by simp only [kGp, Bool.or_eq_true, Bool.and_eq_true, beq_iff_eq] at q; omega)), fun t ht => ?_, fun i hi => ?_, fun k hk => ?_, fun k hk => ?_⟩
    · rw [ne 7 26 (by omega) (by omega)]
      exact s1
    · rw [ne 7 1 (by omega) (by omega)]
      exact s3
    · rw [ne 20 t (by omega) (by omega)]
      exact s4 t ht
    · rw [ne 35 k (by omega) (by omega)]
      exact s5 k hk
    · rw [ne 7 10 (by omega) (by omega)]
      exact s6
    · rw [n22]
      exact s7 t ht
    · by_cases e : i = nA
      · subst e
        have key : ∃ f g, f ≤ g ∧ g < p' ∧ fromF N i = nI f ∧ toF N i = nI g := by
          rw [vfr, vto]
          unfold askIs at hi
          by_cases z : k = 3
          · rw [if_pos z, if_pos z]
            exact ⟨0, p' - 1, by omega, by omega, rfl, by rw [show (1 : Int32) = nI 1 from rfl, pk_sub (by omega)]⟩
          · rw [if_neg z] at hi
            rw [if_neg z, if_neg z]
            obtain ⟨h1, h2⟩ := hi
            rw [hp] at h1 h2
            obtain ⟨f, f1, f2⟩ := in_nI (by omega) h1
            by_cases y : k = 1
            · rw [if_pos y]
              obtain ⟨h3, h4⟩ := h2 y
              obtain ⟨g, g1, g2⟩ := in_nI (by omega) ⟨Int32.le_trans h1.1 h3, h4⟩
              rw [f2, g2, nI_le_iff] at h3
              exact ⟨f, g, h3, g1, f2, g2⟩
            · rw [if_neg y]
              exact ⟨f, f, Nat.le_refl _, f1, f2, f2⟩
        obtain ⟨f, g, h1, h2, h3, h4⟩ := key
        have e1 : frN N i = f := by unfold frN; rw [h3]; exact ncl (N := 61) (by omega)
        have e2 : toN N i = g := by unfold toN; rw [h4]; exact ncl (N := 61) (by omega)
        exact ⟨t, p', ht, n26, by rw [e1]; exact h3, by rw [e2]; exact h4, by rw [e1, e2]; exact h1, by rw [n22]; exact hp, by omega, by rw [e2]; exact h2⟩
      · obtain ⟨t, q, g1, g2, g3, g4, g5, g6, g7, g8⟩ := gA i (by omega)
        have f1 : frN N i = frN M i := by unfold frN; rw [efr i (by omega)]
        have f2 : toN N i = toN M i := by unfold toN; rw [eto i (by omega)]
        exact ⟨t, q, g1, by rw [ne 26 i (by omega) (by omega)]; exact g2, by rw [efr i (by omega), f1]; exact g3, by rw [eto i (by omega), f2]; exact g4, by rw [f1, f2]; exact g5, by rw [n22]; exact g6, g7, by rw [f2]; exact g8⟩
    · obtain ⟨g1, g2, g3⟩ := gW k hk
      rw [ew, ne 39 k (by omega) (by omega)]
      refine ⟨g1, g2, fun i hi => ?_⟩
      rw [el, ne 38 _ (by omega) (by omega)]
      exact ⟨(g3 i hi).1, by have := (g3 i hi).2; omega⟩
    · obtain ⟨i1, i2, i3⟩ := gI k hk
      rw [ew, ne 36 k (by omega) (by omega), ne 37 k (by omega) (by omega), ne 41 k (by omega) (by omega)]
      refine ⟨i1, i2, fun i hi => ?_⟩
      have := ((gW k hk).2.2 i hi).2
      simp only [el]
      rw [ne 26 _ (by omega) (by omega), ne 30 _ (by omega) (by omega)]
      exact i3 i hi
    · by_cases e : i = nA
      · rw [e]
        exact fun _ => n31
      · rw [ne 30 i (by omega) (by omega), ne 31 i (by omega) (by omega)]
        exact gD i (by omega)
    · rw [ne 23 t (by omega) (by omega), ne 24 t (by omega) (by omega)]
      exact u1 t ht
    · rw [n2]
      exact u2 i hi
    · rw [n2]
      exact u3 k (by omega)
    · rw [ne 39 k (by omega) (by omega), ne 40 k (by omega) (by omega)]
      exact u4 k hk
  · obtain ⟨h1, h2, h3, h4⟩ := hN
    refine ⟨by rw [ne 7 9 (by omega) (by omega)]; exact h1, h2, fun i hi2 => ?_, fun x y hxy hy => ?_⟩
    · by_cases e : i = nA
      · exact ⟨nw, Nat.le_refl _, by rw [e, n29]; exact h1⟩
      · rw [ne 29 i (by omega) (by omega)]
        exact h3 i (by omega)
    · by_cases e : y = nA
      · rw [e, n29, h1, ncl (N := 1000000) h2]
        by_cases e2 : x = nA
        · rw [e2, n29, h1, ncl (N := 1000000) h2]
          exact Nat.le_refl _
        · rw [ne 29 x (by omega) (by omega)]
          obtain ⟨f, f1, f2⟩ := h3 x (by omega)
          rw [f2, ncl (N := 1000000) (by omega)]
          exact f1
      · rw [ne 29 x (by omega) (by omega), ne 29 y (by omega) (by omega)]
        exact h4 x y hxy (by omega)
  · exact ⟨by rw [hcw.A, hA1 _ _ (by omega)]; exact l1, by rw [hcw.L, hL1 _ _ (by omega)]; exact l2, by rw [hcw.A, hA1 _ _ (by omega)]; exact l3, by rw [hcw.L, hL1 _ _ (by omega)]; exact l4, fun i => by rw [hF _ _ _ (fun z => by unfold wAk at z; omega)]; exact l5 i⟩
end ZAK
section ZAKb
variable {l : Launch} {D : DD} {d : Nat} {c : HP} {M N : MD} {Q : List Value → HP → Prop} {L B : Nat} {s : Nat → Int32}
theorem sp_init1 {j : Nat} (ha : mA c 1 j = true) (k x a b m : Int32) (H : Q [] (pm (i1C c j k x a b m) N)) : K_X1_init l D (d + 1) [.ref (ob 1 j), .int k, .int x, .int a, .int b, .int m] (pm c N) Q := by
  refine m_X1_init (lsA := [.ref (ob 1 j), .int k, .int x, .int a, .int b, .int m]) rfl (Nat.le_of_ble_eq_true rfl) ?_
  intro X h0
  apply h0
  simp only [B_X1_init_0, o_al, o_obj, o_ic, o_pI, o_il, o_vret, nth_0, nth_1, nth_2, nth_3, nth_4, nth_5, al_1, ix_1, cw_1, cats_nil, cats_cons, rf_s, rf_n, isR_r, isR_n, isR_rf, cat_i, cat_l, cat_r, cat_n, cat_rf, unl_i, unl_l, unl_r, unl_n, unl_j, unl_rf, orf_r, orf_n, orf_rf, rf_null, mA_pm, mL_pm, mP_pm, List.length_cons, List.length_nil, List.cons_append, List.nil_append, Nat.reduceAdd, Nat.reduceLeDiff, Nat.reduceLT, Nat.reduceEqDiff, Nat.zero_add, Nat.add_zero, Nat.le_refl, Nat.zero_le, true_and, and_true, true_or, or_true, false_or, or_false, reduceIte, ha, mA_wI]
  exact H
theorem askOK_is {t p : Nat} {k a b : Int32} (hp : M.1 22 t = nI p) (hp2 : p ≤ 60) : askOK k a b p ↔ ((0 ≤ k ∧ k ≤ 4) ∧ askIs M k a b t) := by
  unfold askOK askIs
  rw [hp]
  have r : ∀ x : Int32, (∃ i, i < p ∧ x = nI i) ↔ (0 ≤ x ∧ x ≤ nI p - 1) := fun x => ⟨fun ⟨i, h1, h2⟩ => by rw [h2]; exact in_nI' h1 (by omega), fun h => in_nI (by omega) h⟩
  by_cases z : k = 3
  · rw [if_pos z, if_pos z]
  · rw [if_neg z, if_neg z, r a, r b]
    refine ⟨fun ⟨h1, h2, h3⟩ => ⟨h1, h2, fun y => ⟨(h3 y).1, (h3 y).2.2⟩⟩, fun ⟨h1, h2, h3⟩ => ⟨h1, h2, fun y => ⟨(h3 y).1, Int32.le_trans h2.1 (h3 y).1, (h3 y).2⟩⟩⟩
theorem sp_ask6 (hc : SKF c) {nT nR nA : Nat} (hd : SKD c nT nR nA) (hT2 : nT ≤ 12) (hA2 : nA ≤ 150) (hT : CTp c M nT) (h9 : mI c 6 9 0 = nI nA) (h10 : mI c 6 10 0 = M.1 7 9) (hf : mA c 1 nA = false) (hpl : ∀ t, t < nT → ∃ p, 0 < p ∧ p ≤ 60 ∧ M.1 22 t = nI p) (k x a b : Int32) (H : ∀ r c', (∃ t p, t < nT ∧ x = nI t ∧ M.1 22 t = nI p ∧ p ≤ 60 ∧ nA < 150 ∧ (0 ≤ k ∧ k ≤ 4) ∧ askIs M k a b t ∧ r = nI nA ∧ c' = cwC (akC c nA k t a b p (M.1 7 9)) nA t 1) ∨ (¬ (∃ t, t < nT ∧ x = nI t ∧ (0 ≤ k ∧ k ≤ 4) ∧ nA < 150 ∧ askIs M k a b t) ∧ r = -1 ∧ c' = c) → Q [.int r] (pm c' N)) : K_X6_ask l D (d + 3) [.ref (ob 6 0), .int k, .int x, .int a, .int b] (pm c N) Q := by
  refine m_X6_ask (lsA := [.ref (ob 6 0), .int k, .int x, .int a, .int b, jk, jk, jk]) rfl (Nat.le_of_ble_eq_true rfl) ?_
  intro X h0 h46 h48
  have k46 : ¬ (∃ t, t < nT ∧ x = nI t ∧ (0 ≤ k ∧ k ≤ 4) ∧ nA < 150 ∧ askIs M k a b t) → ∀ ls n1 n2, n1 ≤ 1 → n2 ≤ 10 → X 46 ls [] (pm c N) n1 n2 := by
    intro q ls n1 n2 _ _
    apply h46
    simp only [B_X6_ask_46, o_ic, o_iret, cats_nil, cats_cons, rf_s, rf_n, isR_r, isR_n, isR_rf, cat_i, cat_l, cat_r, cat_n, cat_rf, unl_i, unl_l, unl_r, unl_n, unl_j, unl_rf, orf_r, orf_n, orf_rf, rf_null, mA_pm, mL_pm, mP_pm, List.length_cons, List.length_nil, List.cons_append, List.nil_append, Nat.reduceAdd, Nat.reduceLeDiff, Nat.reduceLT, Nat.reduceEqDiff, Nat.zero_add, Nat.add_zero, Nat.le_refl, Nat.zero_le, true_and, and_true, true_or, or_true, false_or, or_false, reduceIte]
    exact H _ _ (Or.inr ⟨q, rfl, rfl⟩)
  apply h0
  simp only [B_X6_ask_0, o_al, o_il, o_as, o_gf, o_is, o_ifn, o_if, o_alen, nth_0, nth_2, lset_5, lset_6, nth_5, nth_1, nth_3, nth_4, nth_6, opV_1, opS_4, opS_2, mV_6_9, al_6, cI_6, hc.a6, ix_6, mV_5_2, al_5, cI_5, ix_5, mV_6_2, hc.p6_2, kd_98, ix_98, hc.l98, cats_nil, cats_cons, rf_s, rf_n, isR_r, isR_n, isR_rf, cat_i, cat_l, cat_r, cat_n, cat_rf, unl_i, unl_l, unl_r, unl_n, unl_j, unl_rf, orf_r, orf_n, orf_rf, rf_null, mA_pm, mL_pm, mP_pm, List.length_cons, List.length_nil, List.cons_append, List.nil_append, Nat.reduceAdd, Nat.reduceLeDiff, Nat.reduceLT, Nat.reduceEqDiff, Nat.zero_add, Nat.add_zero, Nat.le_refl, Nat.zero_le, true_and, and_true, true_or, or_true, false_or, or_false, reduceIte]
  refine sp_tapeAt hc hd hT2 x (fun v hv => ?_)
  rcases hv with ⟨t, ht, rfl, rfl⟩ | ⟨hno, rfl⟩
  rotate_left
  · simp only [o_al, o_il, o_as, o_gf, o_is, o_ifn, o_if, o_alen, nth_0, nth_2, lset_5, lset_6, nth_5, nth_1, nth_3, nth_4, nth_6, opV_1, opS_4, opS_2, mV_6_9, al_6, cI_6, hc.a6, ix_6, mV_5_2, al_5, cI_5, ix_5, mV_6_2, hc.p6_2, kd_98, ix_98, hc.l98, cats_nil, cats_cons, rf_s, rf_n, isR_r, isR_n, isR_rf, cat_i, cat_l, cat_r, cat_n, cat_rf, unl_i, unl_l, unl_r, unl_n, unl_j, unl_rf, orf_r, orf_n, orf_rf, rf_null, mA_pm, mL_pm, mP_pm, List.length_cons, List.length_nil, List.cons_append, List.nil_append, Nat.reduceAdd, Nat.reduceLeDiff, Nat.reduceLT, Nat.reduceEqDiff, Nat.zero_add, Nat.add_zero, Nat.le_refl, Nat.zero_le, true_and, and_true, true_or, or_true, false_or, or_false, reduceIte, hc.a6, h9]
    exact ⟨fun _ => k46 (fun ⟨t, h1, h2, _⟩ => hno t h1 h2) _ _ _ (by omega) (by omega), fun z => by first | exact absurd rfl z | exact absurd trivial z⟩
  have hat := hd.2.2.2.1 t ht
  obtain ⟨p, hp0, hp2, hp⟩ := hpl t ht
  have t3 := (hT t ht).2.2.1
  simp only [o_al, o_il, o_as, o_gf, o_is, o_ifn, o_if, o_alen, nth_0, nth_2, lset_5, lset_6, nth_5, nth_1, nth_3, nth_4, nth_6, opV_1, opS_4, opS_2, mV_6_9, al_6, cI_6, hc.a6, ix_6, mV_5_2, al_5, cI_5, ix_5, mV_6_2, hc.p6_2, kd_98, ix_98, hc.l98, cats_nil, cats_cons, rf_s, rf_n, isR_r, isR_n, isR_rf, cat_i, cat_l, cat_r, cat_n, cat_rf, unl_i, unl_l, unl_r, unl_n, unl_j, unl_rf, orf_r, orf_n, orf_rf, rf_null, mA_pm, mL_pm, mP_pm, List.length_cons, List.length_nil, List.cons_append, List.nil_append, Nat.reduceAdd, Nat.reduceLeDiff, Nat.reduceLT, Nat.reduceEqDiff, Nat.zero_add, Nat.add_zero, Nat.le_refl, Nat.zero_le, true_and, and_true, true_or, or_true, false_or, or_false, reduceIte, hc.a6, h9, hat, al_5, t3, hp, rnn, false_imp_iff, not_false_eq_true, true_imp_iff]
  refine sp_isAsk6 _ k a b p hp2 (fun r hr => ?_)
  simp only [o_al, o_il, o_as, o_gf, o_is, o_ifn, o_if, o_alen, nth_0, nth_2, lset_5, lset_6, nth_5, nth_1, nth_3, nth_4, nth_6, opV_1, opS_4, opS_2, mV_6_9, al_6, cI_6, hc.a6, ix_6, mV_5_2, al_5, cI_5, ix_5, mV_6_2, hc.p6_2, kd_98, ix_98, hc.l98, cats_nil, cats_cons, rf_s, rf_n, isR_r, isR_n, isR_rf, cat_i, cat_l, cat_r, cat_n, cat_rf, unl_i, unl_l, unl_r, unl_n, unl_j, unl_rf, orf_r, orf_n, orf_rf, rf_null, mA_pm, mL_pm, mP_pm, List.length_cons, List.length_nil, List.cons_append, List.nil_append, Nat.reduceAdd, Nat.reduceLeDiff, Nat.reduceLT, Nat.reduceEqDiff, Nat.zero_add, Nat.add_zero, Nat.le_refl, Nat.zero_le, true_and, and_true, true_or, or_true, false_or, or_false, reduceIte, hc.a6, hc.p6_2, hc.l98, ofN]
  rcases hr with ⟨rfl, hok⟩ | ⟨rfl, hok⟩
  rotate_left
  · refine ⟨fun _ => k46 (fun ⟨u, h1, h2, h3, h4, h5⟩ => ?_) _ _ _ (by omega) (by omega), fun z => by first | exact absurd rfl z | exact absurd trivial z⟩
    rw [nI_eq_iff] at h2
    subst h2
    exact hok ((askOK_is hp hp2).mpr ⟨h3, h5⟩)
  obtain ⟨ok1, ok2⟩ := (askOK_is hp hp2).mp hok
  refine ⟨fun z => absurd z (by decide), fun _ => ?_⟩
  refine sp_within6 (nI nA) 150 (by omega) _ (fun r hr => ?_)
  simp only [o_al, o_il, o_as, o_gf, o_is, o_ifn, o_if, o_alen, nth_0, nth_2, lset_5, lset_6, nth_5, nth_1, nth_3, nth_4, nth_6, opV_1, opS_4, opS_2, mV_6_9, al_6, cI_6, hc.a6, ix_6, mV_5_2, al_5, cI_5, ix_5, mV_6_2, hc.p6_2, kd_98, ix_98, hc.l98, cats_nil, cats_cons, rf_s, rf_n, isR_r, isR_n, isR_rf, cat_i, cat_l, cat_r, cat_n, cat_rf, unl_i, unl_l, unl_r, unl_n, unl_j, unl_rf, orf_r, orf_n, orf_rf, rf_null, mA_pm, mL_pm, mP_pm, List.length_cons, List.length_nil, List.cons_append, List.nil_append, Nat.reduceAdd, Nat.reduceLeDiff, Nat.reduceLT, Nat.reduceEqDiff, Nat.zero_add, Nat.add_zero, Nat.le_refl, Nat.zero_le, true_and, and_true, true_or, or_true, false_or, or_false, reduceIte]
  rcases hr with ⟨rfl, i, hi, ei⟩ | ⟨rfl, hno⟩
  rotate_left
  · refine ⟨fun _ => k46 (fun ⟨u, h1, h2, h3, h4, h5⟩ => hno nA h4 rfl) _ _ _ (by omega) (by omega), fun z => by first | exact absurd rfl z | exact absurd trivial z⟩
  rw [nI_eq_iff] at ei
  subst ei
  have H' := H _ _ (Or.inl ⟨t, p, ht, rfl, hp, hp2, hi, ok1, ok2, rfl, rfl⟩)
  have hin : vp_in (nI nA) 150 := by have := vin (n := nA) (N := 150) hi; rw [this]; trivial
  have hcl : (nI nA).toNatClampNeg = nA := ncl (N := 150) hi
  refine ⟨fun z => absurd z (by decide), fun _ => ?_⟩
  apply h48
  simp only [B_X6_ask_48, o_new, o_dup, o_il, o_al, o_gf, o_as, o_aast, o_ic, o_ii, o_pI, o_iret, nth_1, nth_2, nth_3, nth_4, nth_0, lset_7, nth_7, nth_5, nth_6, opI_5, opV_1, opV_2, mV_6_10, al_6, cI_6, hc.a6, ix_6, mV_5_2, al_5, cI_5, ix_5, mV_6_2, hc.p6_2, kd_98, ix_98, hc.l98, mV_6_9, al_1, ix_1, cw_6, cats_nil, cats_cons, rf_s, rf_n, isR_r, isR_n, isR_rf, cat_i, cat_l, cat_r, cat_n, cat_rf, unl_i, unl_l, unl_r, unl_n, unl_j, unl_rf, orf_r, orf_n, orf_rf, rf_null, mA_pm, mL_pm, mP_pm, List.length_cons, List.length_nil, List.cons_append, List.nil_append, Nat.reduceAdd, Nat.reduceLeDiff, Nat.reduceLT, Nat.reduceEqDiff, Nat.zero_add, Nat.add_zero, Nat.le_refl, Nat.zero_le, true_and, and_true, true_or, or_true, false_or, or_false, reduceIte, wnm_1, mA_wN, mI_wN, hc.a6, h10, Nat.reduceEqDiff, false_and, and_false]
  refine ⟨nA, hf, ?_⟩
  refine sp_init1 (j := nA) (c := wN c 1 nA 0) (by simp only [mI_wI, mJ_wI, mP_wI, mL_wI, mA_wI, mI_wJ, mJ_wJ, mP_wJ, mL_wJ, mA_wJ, uI_1, uI_2, uJ_1, uJ_2, Nat.reduceEqDiff, false_and, and_false, true_and, and_true, reduceIte, mI_wP, mJ_wP, mL_wP, mA_wP, mI_wN, mJ_wN, mP_wN, mL_wN, mA_wN]) k (nI t) a b (M.1 7 9) ?_
  have e1 : mA (i1C (wN c 1 nA 0) nA k (nI t) a b (M.1 7 9)) 1 nA = true := by unfold i1C; simp only [mI_wI, mJ_wI, mP_wI, mL_wI, mA_wI, mI_wJ, mJ_wJ, mP_wJ, mL_wJ, mA_wJ, uI_1, uI_2, uJ_1, uJ_2, Nat.reduceEqDiff, false_and, and_false, true_and, and_true, reduceIte, mI_wP, mJ_wP, mL_wP, mA_wP, mI_wN, mJ_wN, mP_wN, mL_wN, mA_wN]
  have e5 : mA (i1C (wN c 1 nA 0) nA k (nI t) a b (M.1 7 9)) 5 t = true := by unfold i1C; simp only [mI_wI, mJ_wI, mP_wI, mL_wI, mA_wI, mI_wJ, mJ_wJ, mP_wJ, mL_wJ, mA_wJ, uI_1, uI_2, uJ_1, uJ_2, Nat.reduceEqDiff, false_and, and_false, true_and, and_true, reduceIte, mI_wP, mJ_wP, mL_wP, mA_wP, mI_wN, mJ_wN, mP_wN, mL_wN, mA_wN]; exact hat
  have e52 : mI (i1C (wN c 1 nA 0) nA k (nI t) a b (M.1 7 9)) 5 2 t = nI p := by unfold i1C; simp only [mI_wI, mJ_wI, mP_wI, mL_wI, mA_wI, mI_wJ, mJ_wJ, mP_wJ, mL_wJ, mA_wJ, uI_1, uI_2, uJ_1, uJ_2, Nat.reduceEqDiff, false_and, and_false, true_and, and_true, reduceIte, mI_wP, mJ_wP, mL_wP, mA_wP, mI_wN, mJ_wN, mP_wN, mL_wN, mA_wN]; rw [t3]; exact hp
  simp only [o_new, o_dup, o_il, o_al, o_gf, o_as, o_aast, o_ic, o_ii, o_pI, o_iret, nth_1, nth_2, nth_3, nth_4, nth_0, lset_7, nth_7, nth_5, nth_6, opI_5, opV_1, opV_2, mV_6_10, al_6, cI_6, hc.a6, ix_6, mV_5_2, al_5, cI_5, ix_5, mV_6_2, hc.p6_2, kd_98, ix_98, hc.l98, mV_6_9, al_1, ix_1, cw_6, cats_nil, cats_cons, rf_s, rf_n, isR_r, isR_n, isR_rf, cat_i, cat_l, cat_r, cat_n, cat_rf, unl_i, unl_l, unl_r, unl_n, unl_j, unl_rf, orf_r, orf_n, orf_rf, rf_null, mA_pm, mL_pm, mP_pm, List.length_cons, List.length_nil, List.cons_append, List.nil_append, Nat.reduceAdd, Nat.reduceLeDiff, Nat.reduceLT, Nat.reduceEqDiff, Nat.zero_add, Nat.add_zero, Nat.le_refl, Nat.zero_le, true_and, and_true, true_or, or_true, false_or, or_false, reduceIte, e1, e5, e52, al_5]
  refine sp_reachOver e1 (nI p) ?_
  have g6 : mA (rchC (i1C (wN c 1 nA 0) nA k (nI t) a b (M.1 7 9)) nA (nI p)) 6 0 = true := by unfold rchC i1C; simp only [mI_wI, mJ_wI, mP_wI, mL_wI, mA_wI, mI_wJ, mJ_wJ, mP_wJ, mL_wJ, mA_wJ, uI_1, uI_2, uJ_1, uJ_2, Nat.reduceEqDiff, false_and, and_false, true_and, and_true, reduceIte, mI_wP, mJ_wP, mL_wP, mA_wP, mI_wN, mJ_wN, mP_wN, mL_wN, mA_wN]; exact hc.a6
  have gl : mL (rchC (i1C (wN c 1 nA 0) nA k (nI t) a b (M.1 7 9)) nA (nI p)) 98 0 = 150 := by unfold rchC i1C; simp only [mI_wI, mJ_wI, mP_wI, mL_wI, mA_wI, mI_wJ, mJ_wJ, mP_wJ, mL_wJ, mA_wJ, uI_1, uI_2, uJ_1, uJ_2, Nat.reduceEqDiff, false_and, and_false, true_and, and_true, reduceIte, mI_wP, mJ_wP, mL_wP, mA_wP, mI_wN, mJ_wN, mP_wN, mL_wN, mA_wN]; exact hc.l98
  have gp : mP (rchC (i1C (wN c 1 nA 0) nA k (nI t) a b (M.1 7 9)) nA (nI p)) 6 2 0 = some (ob 98 0) := by unfold rchC i1C; simp only [mI_wI, mJ_wI, mP_wI, mL_wI, mA_wI, mI_wJ, mJ_wJ, mP_wJ, mL_wJ, mA_wJ, uI_1, uI_2, uJ_1, uJ_2, Nat.reduceEqDiff, false_and, and_false, true_and, and_true, reduceIte, mI_wP, mJ_wP, mL_wP, mA_wP, mI_wN, mJ_wN, mP_wN, mL_wN, mA_wN]; exact hc.p6_2
  have g9 : mI (rchC (i1C (wN c 1 nA 0) nA k (nI t) a b (M.1 7 9)) nA (nI p)) 6 9 0 = nI nA := by unfold rchC i1C; simp only [mI_wI, mJ_wI, mP_wI, mL_wI, mA_wI, mI_wJ, mJ_wJ, mP_wJ, mL_wJ, mA_wJ, uI_1, uI_2, uJ_1, uJ_2, Nat.reduceEqDiff, false_and, and_false, true_and, and_true, reduceIte, mI_wP, mJ_wP, mL_wP, mA_wP, mI_wN, mJ_wN, mP_wN, mL_wN, mA_wN]; exact h9
  simp only [o_new, o_dup, o_il, o_al, o_gf, o_as, o_aast, o_ic, o_ii, o_pI, o_iret, nth_1, nth_2, nth_3, nth_4, nth_0, lset_7, nth_7, nth_5, nth_6, opI_5, opV_1, opV_2, mV_6_10, al_6, cI_6, hc.a6, ix_6, mV_5_2, al_5, cI_5, ix_5, mV_6_2, hc.p6_2, kd_98, ix_98, hc.l98, mV_6_9, al_1, ix_1, cw_6, cats_nil, cats_cons, rf_s, rf_n, isR_r, isR_n, isR_rf, cat_i, cat_l, cat_r, cat_n, cat_rf, unl_i, unl_l, unl_r, unl_n, unl_j, unl_rf, orf_r, orf_n, orf_rf, rf_null, mA_pm, mL_pm, mP_pm, List.length_cons, List.length_nil, List.cons_append, List.nil_append, Nat.reduceAdd, Nat.reduceLeDiff, Nat.reduceLT, Nat.reduceEqDiff, Nat.zero_add, Nat.add_zero, Nat.le_refl, Nat.zero_le, true_and, and_true, true_or, or_true, false_or, or_false, reduceIte, g6, gl, gp, g9, kd_1, kd_98, ix_98, hin, hcl, mA_wP, mI_wP, wP_cm, nI_1, mA_wI]
  have hK := ak_skf (c := c) (j := nA) (k := k) (t := t) (a := a) (b := b) (p := p) (m := M.1 7 9) hc
  have hS := ak_skd (c := c) (k := k) (t := t) (a := a) (b := b) (p := p) (m := M.1 7 9) hi hd
  have hv := (ak_v (c := c) (j := nA) (k := k) (t := t) (a := a) (b := b) (p := p) (m := M.1 7 9)).2.1
  unfold akC at hK hS hv H'
  refine sp_changeWaiting (nT := nT) (nR := nR) (nA := nA + 1) hK hS hT2 (by omega) ht hv 1 ?_
  simp only [o_new, o_dup, o_il, o_al, o_gf, o_as, o_aast, o_ic, o_ii, o_pI, o_iret, nth_1, nth_2, nth_3, nth_4, nth_0, lset_7, nth_7, nth_5, nth_6, opI_5, opV_1, opV_2, mV_6_10, al_6, cI_6, hc.a6, ix_6, mV_5_2, al_5, cI_5, ix_5, mV_6_2, hc.p6_2, kd_98, ix_98, hc.l98, mV_6_9, al_1, ix_1, cw_6, cats_nil, cats_cons, rf_s, rf_n, isR_r, isR_n, isR_rf, cat_i, cat_l, cat_r, cat_n, cat_rf, unl_i, unl_l, unl_r, unl_n, unl_j, unl_rf, orf_r, orf_n, orf_rf, rf_null, mA_pm, mL_pm, mP_pm, List.length_cons, List.length_nil, List.cons_append, List.nil_append, Nat.reduceAdd, Nat.reduceLeDiff, Nat.reduceLT, Nat.reduceEqDiff, Nat.zero_add, Nat.add_zero, Nat.le_refl, Nat.zero_le, true_and, and_true, true_or, or_true, false_or, or_false, reduceIte]
  exact H'
theorem op_ask (h : INB L s c M B) (k x a b : Int32) (H : ∀ r c1, PRE L s c1 → (∀ Q' : List Value → HP → Prop, (∀ M', INB L s c1 M' B → Q' [.int r] (pm c1 M')) → K_X7_ask l D (d + 20) [.ref (ob 7 0), .int k, .int x, .int a, .int b] (pm c1 M) Q') → Q [.int r] (pm c1 M)) : K_X6_ask l D (d + 20) [.ref (ob 6 0), .int k, .int x, .int a, .int b] (pm c M) Q := by
  obtain ⟨nw, hB, nT, nR, nA, hT2, hR2, hA2, hC, hG, hN, hL⟩ := id h
  obtain ⟨c1, c2, c3, c4, ⟨c5, c6, c7⟩, c8, c9⟩ := id hC
  refine sp_ask6 c1 c2 hT2 hA2 c4.1.2.1 c7 c4.1.2.2.2.2.2.1 (c9.2.2 nA (Nat.le_refl _)) hG.1.2.2.2.2.2.2 k x a b (fun r c' hr => ?_)
  rcases hr with ⟨t, p, t1, rfl, t3, t4, t5, t6, t7, rfl, rfl⟩ | ⟨k1, rfl, rfl⟩
  · obtain ⟨g1, g2, g3, g4⟩ := CPL.ask hT2 hR2 t5 hC hG hN hL t1 t3 t4 t7
    refine H _ _ ⟨g1.2.2.1, g4⟩ (fun Q' H' => ?_)
    refine sp_ask g1.2.2.1 hG.1.2.2.1 hT2 hG.1.2.1 hA2 k (nI t) a b (fun r' M' hr' => ?_)
    rcases hr' with ⟨u, -, -, -, -, -, rfl, g⟩ | ⟨q, -⟩
    · exact H' _ (INB.sc ⟨nw, hB, nT, nR, nA + 1, hT2, hR2, by omega, g1, g2, g3, g4⟩ g)
    · exact absurd ⟨t, t1, rfl, t6, t5, t7⟩ q
  · refine H _ _ ⟨c3, hL⟩ (fun Q' H' => ?_)
    refine sp_ask c3 hG.1.2.2.1 hT2 hG.1.2.1 hA2 k x a b (fun r' M' hr' => ?_)
    rcases hr' with ⟨u, u1, u2, u3, u4, u5, -⟩ | ⟨-, rfl, g⟩
    · exact absurd ⟨u, u1, u2, u3, u4, u5⟩ k1
    · exact H' _ (h.sc g)
end ZAKb
