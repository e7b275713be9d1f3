/-! Class and model: tape -/
section ZTAPE
variable {c : HP} {M : MD} {nT nR nA nw L : Nat} {s : Nat → Int32} {j : Nat} {x y : Int32} {p : Nat}
theorem tp_I {a b e : Nat} (h : ¬ ((a = 5 ∨ a = 89) ∧ e = j)) : mI (tpC c j x y p) a b e = if a = 6 ∧ b = 7 ∧ e = 0 then nI (j + 1) else mI c a b e := by
  unfold tpC i5C
  rw [mI_wI, mI_wP]
  by_cases q : a = 6 ∧ b = 7 ∧ e = 0
  · rw [if_pos q, if_pos q]
  · rw [if_neg q, if_neg q]
    split
    · rw [mI_wP, mI_wI, if_neg (by omega), mI_wI, if_neg (by omega), mI_wI, if_neg (by omega), mI_wI, if_neg (by omega), mI_wN, if_neg (by omega)]
    · rw [mI_wP, mI_wI, if_neg (by omega), mI_wI, if_neg (by omega), mI_wI, if_neg (by omega), mI_wI, if_neg (by omega), mI_wN, if_neg (by omega), mI_wN, if_neg (by omega)]
theorem tp_I5 (b : Nat) : mI (tpC c j x y p) 5 b j = if b = 2 then nI p else if b = 1 then y else if b = 0 then x else 0 := by
  unfold tpC i5C
  split <;> simp only [mI_wI, mJ_wI, mP_wI, mL_wI, mA_wI, mI_wJ, mJ_wJ, mP_wJ, mL_wJ, mA_wJ, uI_1, uI_2, uJ_1, uJ_2, Nat.reduceEqDiff, false_and, and_false, true_and, and_true, reduceIte, mI_wP, mJ_wP, mL_wP, mA_wP, mI_wN, mJ_wN, mP_wN, mL_wN, mA_wN] <;> (by_cases e : b = 5 <;> simp [e])
theorem tp_J {a b e : Nat} (h : ¬ ((a = 5 ∨ a = 89) ∧ e = j)) : mJ (tpC c j x y p) a b e = mJ c a b e := by
  unfold tpC i5C
  rw [mJ_wI, mJ_wP]
  split
  · rw [mJ_wP, mJ_wI, mJ_wI, mJ_wI, mJ_wI, mJ_wN, if_neg (by omega)]
  · rw [mJ_wP, mJ_wI, mJ_wI, mJ_wI, mJ_wI, mJ_wN, if_neg (by omega), mJ_wN, if_neg (by omega)]
theorem tp_J89 (h : ¬ y = 4) (b : Nat) : mJ (tpC c j x y p) 89 b j = 0 := by
  unfold tpC i5C
  rw [if_neg h]
  simp only [mI_wI, mJ_wI, mP_wI, mL_wI, mA_wI, mI_wJ, mJ_wJ, mP_wJ, mL_wJ, mA_wJ, uI_1, uI_2, uJ_1, uJ_2, Nat.reduceEqDiff, false_and, and_false, true_and, and_true, reduceIte, mI_wP, mJ_wP, mL_wP, mA_wP, mI_wN, mJ_wN, mP_wN, mL_wN, mA_wN]
theorem tp_P {a b e : Nat} (h : ¬ ((a = 5 ∨ a = 89) ∧ e = j)) : mP (tpC c j x y p) a b e = if a = 96 ∧ b = j ∧ e = 0 then some (ob 5 j) else mP c a b e := by
  unfold tpC i5C
  rw [mP_wI, mP_wP]
  by_cases q : a = 96 ∧ b = j ∧ e = 0
  · rw [if_pos q, if_pos q]
  · rw [if_neg q, if_neg q]
    split
    · rw [mP_wP, if_neg (by omega), mP_wI, mP_wI, mP_wI, mP_wI, mP_wN, if_neg (by omega)]
    · rw [mP_wP, if_neg (by omega), mP_wI, mP_wI, mP_wI, mP_wI, mP_wN, if_neg (by omega), mP_wN, if_neg (by omega)]
theorem tp_P53 : mP (tpC c j x y p) 5 3 j = if y = 4 then none else some (ob 89 j) := by
  unfold tpC i5C
  split <;> simp only [mI_wI, mJ_wI, mP_wI, mL_wI, mA_wI, mI_wJ, mJ_wJ, mP_wJ, mL_wJ, mA_wJ, uI_1, uI_2, uJ_1, uJ_2, Nat.reduceEqDiff, false_and, and_false, true_and, and_true, reduceIte, mI_wP, mJ_wP, mL_wP, mA_wP, mI_wN, mJ_wN, mP_wN, mL_wN, mA_wN, mP_wP]
theorem tp_A {a e : Nat} (h : ¬ ((a = 5 ∨ a = 89) ∧ e = j)) : mA (tpC c j x y p) a e = mA c a e := by
  unfold tpC i5C
  split
  · simp only [mI_wI, mJ_wI, mP_wI, mL_wI, mA_wI, mI_wJ, mJ_wJ, mP_wJ, mL_wJ, mA_wJ, uI_1, uI_2, uJ_1, uJ_2, Nat.reduceEqDiff, false_and, and_false, true_and, and_true, reduceIte, mI_wP, mJ_wP, mL_wP, mA_wP, mI_wN, mJ_wN, mP_wN, mL_wN, mA_wN]
    rw [if_neg (by omega)]
  · simp only [mI_wI, mJ_wI, mP_wI, mL_wI, mA_wI, mI_wJ, mJ_wJ, mP_wJ, mL_wJ, mA_wJ, uI_1, uI_2, uJ_1, uJ_2, Nat.reduceEqDiff, false_and, and_false, true_and, and_true, reduceIte, mI_wP, mJ_wP, mL_wP, mA_wP, mI_wN, mJ_wN, mP_wN, mL_wN, mA_wN]
    rw [if_neg (by omega), if_neg (by omega)]
theorem tp_A5 : mA (tpC c j x y p) 5 j = true := by
  unfold tpC i5C
  split <;> simp only [mI_wI, mJ_wI, mP_wI, mL_wI, mA_wI, mI_wJ, mJ_wJ, mP_wJ, mL_wJ, mA_wJ, uI_1, uI_2, uJ_1, uJ_2, Nat.reduceEqDiff, false_and, and_false, true_and, and_true, reduceIte, mI_wP, mJ_wP, mL_wP, mA_wP, mI_wN, mJ_wN, mP_wN, mL_wN, mA_wN]
theorem tp_L {a e : Nat} (h : ¬ ((a = 5 ∨ a = 89) ∧ e = j)) : mL (tpC c j x y p) a e = mL c a e := by
  unfold tpC i5C
  split
  · simp only [mI_wI, mJ_wI, mP_wI, mL_wI, mA_wI, mI_wJ, mJ_wJ, mP_wJ, mL_wJ, mA_wJ, uI_1, uI_2, uJ_1, uJ_2, Nat.reduceEqDiff, false_and, and_false, true_and, and_true, reduceIte, mI_wP, mJ_wP, mL_wP, mA_wP, mI_wN, mJ_wN, mP_wN, mL_wN, mA_wN]
    rw [if_neg (by omega)]
  · simp only [mI_wI, mJ_wI, mP_wI, mL_wI, mA_wI, mI_wJ, mJ_wJ, mP_wJ, mL_wJ, mA_wJ, uI_1, uI_2, uJ_1, uJ_2, Nat.reduceEqDiff, false_and, and_false, true_and, and_true, reduceIte, mI_wP, mJ_wP, mL_wP, mA_wP, mI_wN, mJ_wN, mP_wN, mL_wN, mA_wN]
    rw [if_neg (by omega), if_neg (by omega)]
theorem tp_L89 (h : ¬ y = 4) : mL (tpC c j x y p) 89 j = p := by
  unfold tpC i5C
  rw [if_neg h]
  simp only [mI_wI, mJ_wI, mP_wI, mL_wI, mA_wI, mI_wJ, mJ_wJ, mP_wJ, mL_wJ, mA_wJ, uI_1, uI_2, uJ_1, uJ_2, Nat.reduceEqDiff, false_and, and_false, true_and, and_true, reduceIte, mI_wP, mJ_wP, mL_wP, mA_wP, mI_wN, mJ_wN, mP_wN, mL_wN, mA_wN]
def wTp (j : Nat) : Nat → Nat → Nat → Prop := fun a b e => ((a = 5 ∨ a = 89) ∧ e = j) ∨ (a = 6 ∧ b = 7 ∧ e = 0)
theorem tp_q : QI (wTp j) c (tpC c j x y p) := fun a b e q => by
  unfold wTp at q
  rw [tp_I (by omega), if_neg (by omega)]
def kI (k i : Nat) : Bool := k == 47 || k == 48 || (k == 7 && i == 42)
theorem SHC.q {w : Nat → Nat → Nat → Prop} {c' : HP} {M' : MD} (h : SHC c M) (g : QI w c c') (gj : mJ c' 4 6 0 = mJ c 4 6 0) (q : ∀ a i j, w a i j → ¬ (a = 4 ∨ a = 16 ∨ a = 17 ∨ a = 18)) (e : EK kI M M') : SHC c' M' := by
  obtain ⟨n, sz, ct, ⟨h1, h2, h3, h4⟩, ⟨i1, i2, i3⟩, h5⟩ := h
  refine ⟨n, sz, ct, ⟨h1, by rw [g _ _ _ (fun z => by have := q _ _ _ z; omega)]; exact h2, by rw [g _ _ _ (fun z => by have := q _ _ _ z; omega)]; exact h3, fun i hi => by rw [g _ _ _ (fun z => by have := q _ _ _ z; omega), g _ _ _ (fun z => by have := q _ _ _ z; omega)]; exact h4 i hi⟩, ⟨i1, by rw [e 7 42 rfl]; exact i2, fun i hi => by rw [e 47 i rfl, e 48 i rfl]; exact i3 i hi⟩, ?_⟩
  rw [g _ _ _ (fun z => by have := q _ _ _ z; omega)]
  rcases h5 with ⟨h5, h6, h7⟩ | h5
  · exact Or.inl ⟨h5, by rw [gj]; exact h6, fun i hi => by rw [g _ _ _ (fun z => by have := q _ _ _ z; omega)]; exact h7 i hi⟩
  · exact Or.inr h5
/-- a plan, where only new cells came -/
theorem PLN.q {w : Nat → Nat → Nat → Prop} {c' : HP} {M' : MD} {t : Nat} (h : PLN c M t nA) (g : QI w c c') (q : ∀ k i j, w k i j → k ≠ 2 ∧ ¬ (8 ≤ k ∧ k ≤ 15)) (e : AG M M') : PLN c' M' t nA := by
  have hF : FRI w c (c.1, c.2.1, c'.2.2.1, c.2.2.2) := ⟨rfl, rfl, rfl, g⟩
  have h1 : PLN (c.1, c.2.1, c'.2.2.1, c.2.2.2) M' t nA := h.fr hF q e
  exact h1
/-- the orders of a tape hang on its own asks -/
def AGt (M M' : MD) (nT nA : Nat) : Prop := (∀ k, k < nA → M'.1 25 k = M.1 25 k ∧ M'.1 26 k = M.1 26 k ∧ M'.1 27 k = M.1 27 k ∧ M'.1 28 k = M.1 28 k ∧ M'.1 30 k = M.1 30 k) ∧ ∀ t, t < nT → M'.1 22 t = M.1 22 t ∧ M'.1 23 t = M.1 23 t
theorem PLN.ag {M' : MD} {t : Nat} (hT2 : nT ≤ 12) (hG : GA M nT nA) (ht : t < nT) (h : PLN c M t nA) (e : AGt M M' nT nA) : PLN c M' t nA := by
  have e1 : gl M' t nA = gl M t nA := gl_cong (fun i hi => ⟨(e.1 i hi).2.1, (e.1 i hi).2.2.2.2⟩)
  have e2 : hdN M' t = hdN M t := by unfold hdN; rw [(e.2 t ht).2]
  have ef : ∀ k, k < nA → frN M' k = frN M k := fun k hk => by unfold frN fromF; rw [(e.1 k hk).1, (e.1 k hk).2.2.1]
  have et : ∀ k, k < nA → toN M' k = toN M k := fun k hk => by
    obtain ⟨u, p, g1, g2, -⟩ := hG k hk
    have e22 : M'.1 22 (M.1 26 k).toNatClampNeg = M.1 22 (M.1 26 k).toNatClampNeg := by rw [g2, ncl (N := 13) (by omega)]; exact (e.2 u g1).1
    unfold toN toF
    rw [(e.1 k hk).1, (e.1 k hk).2.1, (e.1 k hk).2.2.1, (e.1 k hk).2.2.2.1, e22]
  have eo : ∀ i, oL M' t nA i = oL M t nA i := fun i => by unfold oL; rw [e1]
  rcases Nat.eq_zero_or_pos (gl M t nA).length with hz | hp
  · obtain ⟨p1, ⟨m, p2⟩, p3, p4, p5, p6, p7⟩ := h
    have hv : ∀ wt, oV M t nA wt = (0, []) := fun wt => by unfold oV; rw [hz]; rfl
    have hv' : ∀ wt, oV M' t nA wt = (0, []) := fun wt => by unfold oV; rw [e1, hz]; rfl
    have hw : oW M t nA = 0 := by unfold oW; rw [hv]; rfl
    have hw' : oW M' t nA = 0 := by unfold oW; rw [hv']; rfl
    unfold PLN
    rw [e1, e2, hz, hv', hv', hw']
    rw [hz] at p1 p2
    rw [hv] at p5 p7
    rw [hw] at p6
    obtain ⟨d1, d2, d3, d4, d5⟩ := p1
    obtain ⟨s1, s2, s3, s4⟩ := p2
    refine ⟨⟨d1, d2, d3, d4, fun i hi => by omega⟩, ⟨m, s1, s2, fun i hi => ?_, fun s hs ho => ?_⟩, fun i hi => by omega, fun i hi => by omega, p5, p6, p7⟩
    · obtain ⟨s, g1, g2, -⟩ := s3 i hi
      rcases g2 with g2 | ⟨-, g2, -⟩ <;> omega
    · rcases ho with g2 | ⟨-, g2, -⟩ <;> omega
  · have hA0 : 0 < nA := by
      have := (oL_mem (M := M) (t := t) (nA := nA) (i := 0) hp).1
      omega
    have hlt : ∀ i, oL M t nA i < nA := fun i => by
      by_cases q : i < (gl M t nA).length
      · exact (oL_mem q).1
      · have : oL M t nA i = 0 := by
          unfold oL
          rw [List.getD_eq_getElem?_getD, List.getElem?_eq_none (by omega)]
          rfl
        omega
    have e3 : (fun i => frN M' (oL M' t nA i)) = (fun i => frN M (oL M t nA i)) := funext fun i => by rw [eo, ef _ (hlt i)]
    have e4 : (fun i => toN M' (oL M' t nA i)) = (fun i => toN M (oL M t nA i)) := funext fun i => by rw [eo, et _ (hlt i)]
    have e5 : ∀ wt, oV M' t nA wt = oV M t nA wt := fun wt => by unfold oV; rw [e1, e2, e3, e4]
    have e6 : oW M' t nA = oW M t nA := by unfold oW; rw [e2, e3, e4, e5]
    have e7 : ∀ i, oS M' t nA i = oS M t nA i := fun i => by unfold oS; rw [e5, eo]
    unfold PLN at h ⊢
    rw [e1, e2, e3, e4, e5, e5, e6]
    simp only [e7]
    exact h
theorem CPL.tape (hT2 : nT < 12) (hC : CPL c M nT nR nA) (hG : GMI M nT nR nA) (hL : LEV L s c) {a : Nat} (ha : a < 40) (hy : 0 ≤ y ∧ y ≤ 4) (hp : 0 < p) (hp2 : p ≤ 60) : CPL (tpC c nT (nI a) y p) (tapeM M nT (nI a) y (nI p)) (nT + 1) nR nA ∧ GMI (tapeM M nT (nI a) y (nI p)) (nT + 1) nR nA ∧ LEV L s (tpC c nT (nI a) y p) := by
  obtain ⟨c1, ⟨d1, d2, d3, d4, d5, d6⟩, c3, c4, ⟨c5, c6, c7⟩, c8, c9⟩ := hC
  obtain ⟨⟨a1, a2, a3, a4, a5, a6, a7, a8⟩, b1, b2, b3, b4⟩ := c4
  obtain ⟨⟨s1, s2, s3, s4, s5, s6, s7⟩, gA, gH, gW, gR, gJ, gT, gI, gD, gSp, u1, u2, u3, u4⟩ := hG
  obtain ⟨l1, l2, l3, l4, l5⟩ := hL
  obtain ⟨N, hN⟩ : ∃ N, N = tapeM M nT (nI a) y (nI p) := ⟨_, rfl⟩
  have ne : ∀ b i, ¬ ((b = 20 ∨ b = 21 ∨ b = 22) ∧ i = nT) → ¬ (b = 7 ∧ i = 1) → N.1 b i = M.1 b i := fun b i q q2 => by
    rw [hN]
    unfold tapeM
    rw [uI_1, if_neg (by omega), uI_1, if_neg (by omega), uI_1, if_neg (by omega), uI_1, if_neg (by omega)]
  have n20 : N.1 20 nT = nI a := by rw [hN]; unfold tapeM; simp only [mI_wI, mJ_wI, mP_wI, mL_wI, mA_wI, mI_wJ, mJ_wJ, mP_wJ, mL_wJ, mA_wJ, uI_1, uI_2, uJ_1, uJ_2, Nat.reduceEqDiff, false_and, and_false, true_and, and_true, reduceIte]
  have n21 : N.1 21 nT = y := by rw [hN]; unfold tapeM; simp only [mI_wI, mJ_wI, mP_wI, mL_wI, mA_wI, mI_wJ, mJ_wJ, mP_wJ, mL_wJ, mA_wJ, uI_1, uI_2, uJ_1, uJ_2, Nat.reduceEqDiff, false_and, and_false, true_and, and_true, reduceIte]
  have n22 : N.1 22 nT = nI p := by rw [hN]; unfold tapeM; simp only [mI_wI, mJ_wI, mP_wI, mL_wI, mA_wI, mI_wJ, mJ_wJ, mP_wJ, mL_wJ, mA_wJ, uI_1, uI_2, uJ_1, uJ_2, Nat.reduceEqDiff, false_and, and_false, true_and, and_true, reduceIte]
  have n71 : N.1 7 1 = nI (nT + 1) := by rw [hN]; unfold tapeM; simp only [mI_wI, mJ_wI, mP_wI, mL_wI, mA_wI, mI_wJ, mJ_wJ, mP_wJ, mL_wJ, mA_wJ, uI_1, uI_2, uJ_1, uJ_2, Nat.reduceEqDiff, false_and, and_false, true_and, and_true, reduceIte]
  have n2 : N.2 = M.2 := by rw [hN]; rfl
  have ek : ∀ f : Nat → Nat → Bool, (∀ b i, f b i = true → ¬ (b = 20 ∨ b = 21 ∨ b = 22 ∨ (b = 7 ∧ i = 1))) → EK f M N := fun f q b i z => ne b i (fun w => q b i z (by omega)) (fun w => q b i z (by omega))
  have e26 : ∀ k, k < nA → ∃ t, t < nT ∧ M.1 26 k = nI t := fun k hk => by
    obtain ⟨t, p, g1, g2, -⟩ := gA k hk
    exact ⟨t, g1, g2⟩
  have efr : ∀ k, fromF N k = fromF M k := fun k => by unfold fromF; rw [ne 25 k (by omega) (by omega), ne 27 k (by omega) (by omega)]
  have eto : ∀ k, k < nA → toF N k = toF M k := fun k hk => by
    obtain ⟨t, g1, g2⟩ := e26 k hk
    have e22 : N.1 22 (M.1 26 k).toNatClampNeg = M.1 22 (M.1 26 k).toNatClampNeg := by rw [g2, ncl (N := 13) (by omega)]; exact ne 22 t (by omega) (by omega)
    unfold toF
    rw [ne 25 k (by omega) (by omega), ne 26 k (by omega) (by omega), ne 27 k (by omega) (by omega), ne 28 k (by omega) (by omega), e22]
  have hno : ∀ k, k < nA → ¬ M.1 26 k = nI nT := fun k hk z => by
    obtain ⟨t, g1, g2⟩ := e26 k hk
    rw [g2, nI_eq_iff] at z
    omega
  have hj : ∀ k, k < 2 → ¬ M.1 43 k = nI nT := fun k hk z => by
    obtain ⟨t, r, g1, g2, g3, -⟩ := gJ k hk (by rw [z]; exact nI_m1 (by omega))
    rw [g3, nI_eq_iff] at z
    omega
  have hr37 : ∀ k, k < nR → ¬ M.1 37 k = nI nT := fun k hk z => by
    rcases gR k hk with ⟨q, -⟩ | ⟨q1, q2, -⟩
    · rw [z] at q
      exact nI_m1 (by omega) q
    · rw [q2, nI_eq_iff] at z
      omega
  have iI : ∀ k b e, ¬ ((k = 5 ∨ k = 89) ∧ e = nT) → ¬ (k = 6 ∧ b = 7 ∧ e = 0) → mI (tpC c nT (nI a) y p) k b e = mI c k b e := fun k b e q1 q2 => by rw [tp_I q1, if_neg q2]
  rw [← hN]
  have hag : AGt M N nT nA := ⟨fun k hk => ⟨ne 25 k (by omega) (by omega), ne 26 k (by omega) (by omega), ne 27 k (by omega) (by omega), ne 28 k (by omega) (by omega), ne 30 k (by omega) (by omega)⟩, fun t ht => ⟨ne 22 t (by omega) (by omega), ne 23 t (by omega) (by omega)⟩⟩
  refine ⟨⟨?_, ?_, ?_, ⟨⟨?_, ?_, ?_, ?_, ?_, ?_, ?_, ?_⟩, ?_, ?_, ?_, ?_⟩, ?_, ?_, ?_⟩, ?_, ?_⟩
  · refine SKF.of (fun k e q => tp_A ?_) (fun k e q => tp_L ?_) (fun k i e q => ?_) c1
    · simp only [SKF_A, Bool.or_eq_true, beq_iff_eq] at q
      omega
    · simp only [SKF_L, Bool.or_eq_true, beq_iff_eq] at q
      omega
    · simp only [SKF_P, Bool.or_eq_true, beq_iff_eq] at q
      rw [tp_P (by omega), if_neg (by omega)]
  · refine ⟨fun i hi => ?_, fun i hi => ?_, fun i hi => ?_, fun t ht => ?_, fun k hk => ?_, fun k hk => ?_⟩
    · rw [tp_P (by omega)]
      by_cases e : i = nT
      · rw [if_pos ⟨rfl, e, rfl⟩, if_pos (by omega), e]
      · rw [if_neg (by omega), d1 i hi]
        by_cases z : i < nT
        · rw [if_pos z, if_pos (by omega)]
        · rw [if_neg z, if_neg (by omega)]
    · rw [tp_P (by omega), if_neg (by omega)]
      exact d2 i hi
    · rw [tp_P (by omega), if_neg (by omega)]
      exact d3 i hi
    · by_cases e : t = nT
      · rw [e]
        exact tp_A5
      · rw [tp_A (by omega)]
        exact d4 t (by omega)
    · rw [tp_A (by omega), tp_P (by omega), if_neg (by omega), tp_L (by omega)]
      exact d5 k hk
    · rw [tp_A (by omega)]
      exact d6 k hk
  · refine SKM.of (fun k e q => tp_A ?_) (fun k e q => tp_L ?_) (fun k i e q => ?_) c3
    · simp only [SKM_A, beq_iff_eq] at q
      omega
    · simp only [SKM_L, Bool.or_eq_true, beq_iff_eq] at q
      omega
    · simp only [SKM_P, beq_iff_eq] at q
      rw [tp_P (by omega), if_neg (by omega)]
  · intro k hk
    obtain ⟨h0, h1, h2, h3, h4, h5, h6, h7, h8, h9⟩ := a1 k hk
    rw [iI 1 0 k (by omega) (by omega), iI 1 1 k (by omega) (by omega), iI 1 2 k (by omega) (by omega), iI 1 3 k (by omega) (by omega), iI 1 4 k (by omega) (by omega), iI 1 5 k (by omega) (by omega), iI 1 6 k (by omega) (by omega), iI 1 7 k (by omega) (by omega), iI 1 8 k (by omega) (by omega), tp_J (by omega), efr, eto k hk, n2, ne 25 k (by omega) (by omega), ne 26 k (by omega) (by omega), ne 27 k (by omega) (by omega), ne 28 k (by omega) (by omega), ne 29 k (by omega) (by omega), ne 30 k (by omega) (by omega), ne 31 k (by omega) (by omega)]
    exact ⟨h0, h1, h2, h3, h4, h5, h6, h7, h8, h9⟩
  · intro t ht
    by_cases e : t = nT
    · subst e
      rw [tp_I5, tp_I5, tp_I5, tp_I5, tp_I5, tp_I5, n20, n21, n22, ne 23 t (by omega) (by omega), ne 24 t (by omega) (by omega), ne 43 0 (by omega) (by omega), ne 43 1 (by omega) (by omega), (u1 t (Nat.le_refl _)).1, (u1 t (Nat.le_refl _)).2]
      simp only [mI_wI, mJ_wI, mP_wI, mL_wI, mA_wI, mI_wJ, mJ_wJ, mP_wJ, mL_wJ, mA_wJ, uI_1, uI_2, uJ_1, uJ_2, Nat.reduceEqDiff, false_and, and_false, true_and, and_true, reduceIte]
      exact (bi_f (fun z => z.elim (hj 0 (by omega)) (hj 1 (by omega)))).symm
    · rw [iI 5 0 t (by omega) (by omega), iI 5 1 t (by omega) (by omega), iI 5 2 t (by omega) (by omega), iI 5 4 t (by omega) (by omega), iI 5 5 t (by omega) (by omega), iI 5 6 t (by omega) (by omega), ne 20 t (by omega) (by omega), ne 21 t (by omega) (by omega), ne 22 t (by omega) (by omega), ne 23 t (by omega) (by omega), ne 24 t (by omega) (by omega), ne 43 0 (by omega) (by omega), ne 43 1 (by omega) (by omega)]
      exact a2 t (by omega)
  · have ew := (ek kW (fun b i q => by simp only [kW, Bool.or_eq_true, Bool.and_eq_true, beq_iff_eq] at q; omega))
    obtain ⟨h1, h2, h3⟩ := a3
    refine ⟨?_, ?_, fun t ht => ?_⟩
    · rw [iI 6 14 0 (by omega) (by omega), cn_cong (q := fun k => decide (M.1 30 k = 0 ∧ ¬ M.1 25 k = 3)) nA (fun k _ => by rw [ew 30 k rfl, ew 25 k rfl])]
      exact h1
    · rw [iI 6 15 0 (by omega) (by omega), cn_cong (q := fun k => decide (M.1 30 k = 0 ∧ M.1 25 k = 3)) nA (fun k _ => by rw [ew 30 k rfl, ew 25 k rfl])]
      exact h2
    · rw [cn_cong (q := wcl M t) nA (fun k _ => wcl_ek ew t k), sm_cong (g := crd M t) nA (fun k _ => crd_ek ew t k)]
      by_cases e : t = nT
      · subst e
        rw [tp_I5, tp_I5]
        have z1 : ∀ n, n ≤ nA → cn (wcl M t) n = 0 ∧ sm (crd M t) n = 0 := fun n => by
          induction n with
          | zero => exact fun _ => ⟨rfl, rfl⟩
          | succ n ih =>
            intro hn
            obtain ⟨y1, y2⟩ := ih (by omega)
            have hw : wcl M t n = false := by
              unfold wcl
              rw [decide_eq_false_iff_not]
              exact fun z => hno n (by omega) z.1
            have hc2 : crd M t n = 0 := if_neg (fun z => hno n (by omega) z.1)
            show cn (wcl M t) n + (if wcl M t n = true then 1 else 0) = 0 ∧ sm (crd M t) n + crd M t n = 0
            rw [y1, y2, hw, hc2]
            exact ⟨rfl, rfl⟩
        rw [(z1 nA (Nat.le_refl _)).1, (z1 nA (Nat.le_refl _)).2]
        simp only [mI_wI, mJ_wI, mP_wI, mL_wI, mA_wI, mI_wJ, mJ_wJ, mP_wJ, mL_wJ, mA_wJ, uI_1, uI_2, uJ_1, uJ_2, Nat.reduceEqDiff, false_and, and_false, true_and, and_true, reduceIte]
        rfl
      · rw [iI 5 7 t (by omega) (by omega), iI 5 8 t (by omega) (by omega)]
        exact h3 t (by omega)
  · exact a4.fr (w := wTp nT) tp_q (fun i j z => by unfold wTp at z; omega) (fun i j z => by unfold wTp at z; omega) (ek kR (fun b i q => by simp only [kR, Bool.or_eq_true, Bool.and_eq_true, beq_iff_eq] at q; omega))
  · exact a5.fr (w := wTp nT) tp_q (fun i j _ z => by unfold wTp at z; omega) (ek kJ (fun b i q => by simp only [kJ, Bool.or_eq_true, Bool.and_eq_true, beq_iff_eq] at q; omega))
  · rw [iI 6 10 0 (by omega) (by omega), ne 7 9 (by omega) (by omega)]
    exact a6
  · rw [iI 6 11 0 (by omega) (by omega), ne 7 10 (by omega) (by omega)]
    exact a7
  · rw [iI 6 12 0 (by omega) (by omega), ne 7 11 (by omega) (by omega)]
    exact a8
  · intro t ht
    by_cases e : t = nT
    · subst e
      rw [n21, n22, tp_P53]
      by_cases z : y = 4
      · rw [if_pos z]
        exact Or.inl ⟨z, rfl⟩
      · rw [if_neg z]
        refine Or.inr ⟨z, rfl, p, hp2, rfl, tp_L89 z, fun i hi => ?_⟩
        rw [tp_J89 z, n2, u2 _ (by omega)]
    · rw [ne 21 t (by omega) (by omega), ne 22 t (by omega) (by omega), tp_P (by omega), if_neg (by omega), tp_L (by omega), n2]
      rcases b1 t (by omega) with w | ⟨w1, w2, q, w3, w4, w5, w6⟩
      · exact Or.inl w
      · refine Or.inr ⟨w1, w2, q, w3, w4, w5, fun i hi => ?_⟩
        rw [tp_J (by omega)]
        exact w6 i hi
  · unfold PLC
    rw [iI 6 13 0 (by omega) (by omega)]
    rcases b2 with w | ⟨t, t1, t2, t3⟩
    · exact Or.inl w
    · refine Or.inr ⟨t, by omega, t2, ?_⟩
      exact (t3.q (w := wTp nT) tp_q (fun k i j z => by unfold wTp at z; omega) (AG.rf M)).ag (by omega) gA t1 hag
  · exact b3.fr (w := wTp nT) tp_q ⟨fun z => by unfold wTp at z; omega, fun z => by unfold wTp at z; omega⟩ (ek kG (fun b i q => by simp only [kG, Bool.or_eq_true, Bool.and_eq_true, beq_iff_eq] at q; omega))
  · exact b4.fr (w := wTp nT) tp_q (fun j z => by unfold wTp at z; omega) (ne 7 41 (by omega) (by omega))
  · refine ⟨?_, ?_, ?_⟩
    · rw [tp_I (by omega), if_pos ⟨rfl, rfl, rfl⟩]
    · rw [iI 6 8 0 (by omega) (by omega)]
      exact c6
    · rw [iI 6 9 0 (by omega) (by omega)]
      exact c7
  · exact c8.q (w := wTp nT) tp_q (tp_J (by omega)) (fun a i j z => by unfold wTp at z; omega) (ek kI (fun b i q => by simp only [kI, Bool.or_eq_true, Bool.and_eq_true, beq_iff_eq] at q; omega))
  · refine ⟨fun t ht => ?_, fun k hk => ?_, fun k hk => ?_⟩
    · rw [tp_A (by omega), tp_A (by omega)]
      exact c9.1 t (by omega)
    · rw [tp_A (by omega), tp_A (by omega)]
      exact c9.2.1 k hk
    · rw [tp_A (by omega)]
      exact c9.2.2 k hk
  · refine ⟨⟨?_, ?_, n71, fun t ht => ?_, fun k hk => ?_, ?_, fun t ht => ?_⟩, fun k hk => ?_, fun t ht => ?_, gW.fr (ek kGW (fun b i q => by simp only [kGW, Bool.or_eq_true, Bool.and_eq_true, beq_iff_eq] at q; omega)), fun i hi => ?_, fun k hk q => ?_, ⟨fun i j => ?_, ?_, fun i t hi ht y1 y2 => ?_⟩, gI.fr (ek kGI (fun b i q => by simp only [kGI, Bool.or_eq_true, Bool.and_eq_true, beq_iff_eq] at q; omega)), gD.fr (ek kGD (fun b i q => by simp only [kGD, Bool.or_eq_true, Bool.and_eq_true, beq_iff_eq] at q; omega)), gSp.fr (ek kGp (fun b i q => by simp only [kGp, Bool.or_eq_true, Bool.and_eq_true, beq_iff_eq] at q; omega)), fun t ht => ?_, fun i hi => ?_, fun k hk => ?_, fun k hk => ?_⟩
    · rw [ne 7 26 (by omega) (by omega)]
      exact s1
    · rw [ne 7 8 (by omega) (by omega)]
      exact s2
    · by_cases e : t = nT
      · exact ⟨a, by omega, by rw [e, n20]⟩
      · rw [ne 20 t (by omega) (by omega)]
        exact s4 t (by omega)
    · rw [ne 35 k (by omega) (by omega)]
      exact s5 k hk
    · rw [ne 7 10 (by omega) (by omega)]
      exact s6
    · by_cases e : t = nT
      · exact ⟨p, hp, hp2, by rw [e, n22]⟩
      · rw [ne 22 t (by omega) (by omega)]
        exact s7 t (by omega)
    · obtain ⟨t, q, g1, g2, g3, g4, g5, g6, g7, g8⟩ := gA k hk
      have f1 : frN N k = frN M k := by unfold frN; rw [efr]
      have f2 : toN N k = toN M k := by unfold toN; rw [eto k hk]
      exact ⟨t, q, by omega, by rw [ne 26 k (by omega) (by omega)]; exact g2, by rw [efr, f1]; exact g3, by rw [eto k hk, f2]; exact g4, by rw [f1, f2]; exact g5, by rw [ne 22 t (by omega) (by omega)]; exact g6, g7, by rw [f2]; exact g8⟩
    · unfold hdN
      rw [ne 23 t (by omega) (by omega)]
      by_cases e : t = nT
      · rw [e, (u1 nT (Nat.le_refl _)).1]
        exact ⟨rfl, by decide⟩
      · exact gH t (by omega)
    · have := gR i hi
      unfold rtN at this ⊢
      rw [ne 37 i (by omega) (by omega), ne 36 i (by omega) (by omega)]
      rcases this with w | ⟨w1, w2⟩
      · exact Or.inl w
      · exact Or.inr ⟨by omega, w2⟩
    · rw [ne 43 k (by omega) (by omega)] at q
      obtain ⟨t, r, g1, g2, g3, g4, g5⟩ := gJ k hk q
      refine ⟨t, r, by omega, g2, by rw [ne 43 k (by omega) (by omega)]; exact g3, by rw [ne 46 k (by omega) (by omega)]; exact g4, ?_⟩
      rw [ne 81 k (by omega) (by omega), ne 80 k (by omega) (by omega), ne 37 r (by omega) (by omega), ne 36 r (by omega) (by omega)]
      rcases g5 with w | ⟨w1, w2, w3⟩ | w
      · exact Or.inl w
      · exact Or.inr (Or.inl ⟨w1, w2, fun i hi => by rw [ne 37 i (by omega) (by omega)]; exact w3 i hi⟩)
      · exact Or.inr (Or.inr w)
    · rw [ne 37 i (by omega) (by omega), ne 37 j (by omega) (by omega)]
      exact gT.1 i j
    · rw [ne 43 0 (by omega) (by omega), ne 43 1 (by omega) (by omega)]
      exact gT.2.1
    · rw [ne 37 i (by omega) (by omega)] at y1
      rw [ne 24 t (by omega) (by omega)] at y2
      rw [ne 43 0 (by omega) (by omega), ne 43 1 (by omega) (by omega)]
      by_cases e : t = nT
      · rw [e] at y1
        exact absurd y1 (hr37 i hi)
      · exact gT.2.2 i t hi (by omega) y1 y2
    · rw [ne 23 t (by omega) (by omega), ne 24 t (by omega) (by omega)]
      exact u1 t (by omega)
    · rw [n2]
      exact u2 i (by omega)
    · rw [n2]
      exact u3 k hk
    · rw [ne 39 k (by omega) (by omega), ne 40 k (by omega) (by omega)]
      exact u4 k hk
  · exact ⟨by rw [tp_A (by omega)]; exact l1, by rw [tp_L (by omega)]; exact l2, by rw [tp_A (by omega)]; exact l3, by rw [tp_L (by omega)]; exact l4, fun i => by rw [iI 127 i 0 (by omega) (by omega)]; exact l5 i⟩
end ZTAPE
section ZTAPEb
variable {l : Launch} {D : DD} {d : Nat} {c : HP} {M : MD} {Q : List Value → HP → Prop} {L B : Nat} {s : Nat → Int32}
theorem op_tape (h : INB L s c M B) (x y n : Int32) (H : ∀ r c1, PRE L s c1 → (∀ Q' : List Value → HP → Prop, (∀ M', INB L s c1 M' B → Q' [.int r] (pm c1 M')) → K_X7_tape l D (d + 20) [.ref (ob 7 0), .int x, .int y, .int n] (pm c1 M) Q') → Q [.int r] (pm c1 M)) : K_X6_tape l D (d + 20) [.ref (ob 6 0), .int x, .int y, .int n] (pm c M) Q := by
  obtain ⟨nw, hB, nT, nR, nA, hT2, hR2, hA2, hC, hG, hN, hL⟩ := id h
  obtain ⟨c1, c2, c3, c4, ⟨c5, c6, c7⟩, c8, c9⟩ := id hC
  refine sp_tape6 c1 c2 hT2 c4.1.2.1 c5 (c9.1 nT (Nat.le_refl _)) x y n (fun r c' hr => ?_)
  rcases hr with ⟨k1, rfl, rfl⟩ | ⟨k1, k2, rfl, rfl⟩ | ⟨p, k1, p1, p2, rfl, rfl, rfl⟩
  · refine H _ _ ⟨c3, hL⟩ (fun Q' H' => ?_)
    refine sp_tape c3 hG.1.2.2.1 hT2 x y n (fun r' M' hr' => ?_)
    rcases hr' with ⟨-, rfl, g⟩ | ⟨q, -⟩ | ⟨q, -⟩
    · exact H' _ (h.sc g)
    · exact absurd k1 q
    · exact absurd k1 q
  · refine H _ _ ⟨c3, hL⟩ (fun Q' H' => ?_)
    refine sp_tape c3 hG.1.2.2.1 hT2 x y n (fun r' M' hr' => ?_)
    rcases hr' with ⟨q, -⟩ | ⟨-, -, rfl, g⟩ | ⟨-, q, -⟩
    · exact absurd q k1
    · exact H' _ (h.sc g)
    · exact absurd k2 q
  · have hb : ¬ (¬ (0 ≤ x ∧ x ≤ 39)) ∧ ¬ (¬ (0 ≤ y ∧ y ≤ 4)) ∧ ¬ nT = 12 := ⟨fun z => k1 (Or.inl z), fun z => k1 (Or.inr (Or.inl z)), fun z => k1 (Or.inr (Or.inr (Or.inr (Or.inr (Or.inr z)))))⟩
    obtain ⟨b1, b2, b3⟩ := hb
    have b1 := Decidable.not_not.mp b1
    have b2 := Decidable.not_not.mp b2
    obtain ⟨a, a1, rfl⟩ := in_nI (x := x) (n := 40) (by omega) ⟨b1.1, by rw [show nI 40 - 1 = 39 by decide]; exact b1.2⟩
    obtain ⟨g1, g2, g3⟩ := CPL.tape (by omega) hC hG hL a1 b2 p1 p2
    refine H _ _ ⟨g1.2.2.1, g3⟩ (fun Q' H' => ?_)
    refine sp_tape g1.2.2.1 hG.1.2.2.1 hT2 (nI a) y (nI p) (fun r' M' hr' => ?_)
    rcases hr' with ⟨q, -⟩ | ⟨-, q, -⟩ | ⟨-, -, rfl, g⟩
    · exact absurd q k1
    · exact absurd q (nI_ge0 (by omega))
    · refine H' _ (INB.sc ⟨nw, hB, nT + 1, nR, nA, by omega, hR2, hA2, g1, g2, hN.fr ?_, g3⟩ g)
      have ek : ∀ f : Nat → Nat → Bool, (∀ b i, f b i = true → ¬ (b = 20 ∨ b = 21 ∨ b = 22 ∨ (b = 7 ∧ i = 1))) → EK f M (tapeM M nT (nI a) y (nI p)) := fun f q b i z => by
        have := q b i z
        unfold tapeM
        rw [uI_1, if_neg (by omega), uI_1, if_neg (by omega), uI_1, if_neg (by omega), uI_1, if_neg (by omega)]
      exact (ek kTM (fun b i q => by simp only [kTM, Bool.or_eq_true, Bool.and_eq_true, beq_iff_eq] at q; omega))
end ZTAPEb
