/-! Class and model, call by call: what makes no tape, reader, ask -/
def PRE (L : Nat) (s : Nat → Int32) (c : HP) : Prop := SKM c ∧ LEV L s c
def INB (L : Nat) (s : Nat → Int32) (c : HP) (M : MD) (B : Nat) : Prop := ∃ nw, nw ≤ B ∧ INV L s c M nw
section ZOPS
variable {w : Nat → Nat → Nat → Prop} {c c' : HP} {M M' : MD} {nT nR nA nw L B : Nat} {s : Nat → Int32}
theorem INB.up {B' : Nat} (h : INB L s c M B) (g : B ≤ B') : INB L s c M B' := by
  obtain ⟨nw, h1, h2⟩ := h
  exact ⟨nw, by omega, h2⟩
theorem INB.sc (h : INB L s c M B) (g : SC M M') : INB L s c M' B := by
  obtain ⟨nw, h1, h2⟩ := h
  exact ⟨nw, h1, h2.sc g⟩
theorem FRJ.fi (h : FRJ w c c') : FRI w c (c'.1, c'.2.1, c'.2.2.1, c.2.2.2.1, c'.2.2.2.2) := ⟨h.1, h.2.1, Prod.ext rfl h.2.2.1, h.2.2.2.1⟩
theorem PLC.fj (h : PLC c M nT nA) (g : FRJ w c c') (q : ∀ k i j, w k i j → k ≠ 2 ∧ ¬ (8 ≤ k ∧ k ≤ 15) ∧ ¬ (k = 6 ∧ i = 13)) (e : AG M M') : PLC c' M' nT nA := by
  have h1 : PLC (c'.1, c'.2.1, c'.2.2.1, c.2.2.2.1, c'.2.2.2.2) M' nT nA := h.fr g.fi q e
  exact h1
def wSh : Nat → Nat → Nat → Prop := fun a _ _ => a = 4 ∨ a = 16 ∨ a = 17 ∨ a = 18 ∨ a = 88
theorem CPT.sh (h : CPT c M nT nR nA) (hF : FRJ wSh c c') (ek : ∀ f : Nat → Nat → Bool, (∀ b i, f b i = true → ¬ (b = 47 ∨ b = 48 ∨ (b = 7 ∧ i = 42))) → EK f M M') (e2 : M'.2 = M.2) : CPT c' M' nT nR nA := by
  obtain ⟨⟨a1, a2, a3, a4, a5, a6, a7, a8⟩, b1, b2, b3, b4⟩ := h
  have n : ∀ a i j, ¬ (a = 4 ∨ a = 16 ∨ a = 17 ∨ a = 18 ∨ a = 88) → ¬ wSh a i j := fun a i j q z => q z
  exact ⟨⟨a1.fr hF.q (fun i j => n _ _ _ (by omega)) (fun j => hF.J (n _ _ _ (by omega))) (ek kA (fun b i q => by simp only [kA, Bool.or_eq_true, Bool.and_eq_true, beq_iff_eq] at q; omega)) (fun j => by rw [e2]), a2.fr hF.q (fun i j hi => n _ _ _ (by omega)) (ek kT (fun b i q => by simp only [kT, Bool.or_eq_true, Bool.and_eq_true, beq_iff_eq] at q; omega)), a3.fr hF.q (fun j => ⟨n _ _ _ (by omega), n _ _ _ (by omega), n _ _ _ (by omega), n _ _ _ (by omega)⟩) (ek kW (fun b i q => by simp only [kW, Bool.or_eq_true, Bool.and_eq_true, beq_iff_eq] at q; omega)), a4.fr hF.q (fun i j => n _ _ _ (by omega)) (fun i j => n _ _ _ (by omega)) (ek kR (fun b i q => by simp only [kR, Bool.or_eq_true, Bool.and_eq_true, beq_iff_eq] at q; omega)), a5.fr hF.q (fun i j hi => n _ _ _ (by omega)) (ek kJ (fun b i q => by simp only [kJ, Bool.or_eq_true, Bool.and_eq_true, beq_iff_eq] at q; omega)), (hF.I (n _ _ _ (by omega))).trans (a6.trans (((ek kN (fun b i q => by simp only [kN, Bool.or_eq_true, Bool.and_eq_true, beq_iff_eq] at q; omega))) 7 9 rfl).symm), (hF.I (n _ _ _ (by omega))).trans (a7.trans (((ek kN (fun b i q => by simp only [kN, Bool.or_eq_true, Bool.and_eq_true, beq_iff_eq] at q; omega))) 7 10 rfl).symm), (hF.I (n _ _ _ (by omega))).trans (a8.trans (((ek kN (fun b i q => by simp only [kN, Bool.or_eq_true, Bool.and_eq_true, beq_iff_eq] at q; omega))) 7 11 rfl).symm)⟩, b1.fr (fun j => hF.P _ _ _) (fun j => hF.L _ _) (fun i j => hF.J (n _ _ _ (by omega))) (fun t => ((ek kU (fun b i q => by simp only [kU, Bool.or_eq_true, Bool.and_eq_true, beq_iff_eq] at q; omega))) 21 t rfl) (fun t => ((ek kU (fun b i q => by simp only [kU, Bool.or_eq_true, Bool.and_eq_true, beq_iff_eq] at q; omega))) 22 t rfl) (fun i => by rw [e2]), b2.fj hF (fun a i j z => by unfold wSh at z; omega) ((ek kP (fun b i q => by simp only [kP, Bool.or_eq_true, Bool.and_eq_true, beq_iff_eq] at q; omega))).ag, b3.fr hF.q ⟨n _ _ _ (by omega), n _ _ _ (by omega)⟩ (ek kG (fun b i q => by simp only [kG, Bool.or_eq_true, Bool.and_eq_true, beq_iff_eq] at q; omega)), b4.fr hF.q (fun j => n _ _ _ (by omega)) (((ek kY (fun b i q => by simp only [kY, Bool.or_eq_true, Bool.and_eq_true, beq_iff_eq] at q; omega))) 7 41 rfl)⟩
theorem GMI.it (h : GMI M nT nR nA) (ek : ∀ f : Nat → Nat → Bool, (∀ b i, f b i = true → ¬ (b = 47 ∨ b = 48 ∨ (b = 7 ∧ i = 42))) → EK f M M') (e2 : M'.2 = M.2) : GMI M' nT nR nA := by
  obtain ⟨⟨s1, s2, s3, s4, s5, s6, s7⟩, gA, gH, gW, gR, gJ, gT, gI, gD, gSp, gU⟩ := h
  have e : EK (fun k i => k == 20 || k == 21 || k == 22 || k == 25 || k == 26 || k == 27 || k == 28 || k == 29 || k == 35 || (k == 7 && (i == 1 || i == 8 || i == 26 || i == 10))) M M' := ek _ (fun b i q => by simp only [Bool.or_eq_true, Bool.and_eq_true, beq_iff_eq] at q; omega)
  refine ⟨⟨by rw [e 7 26 rfl]; exact s1, by rw [e 7 8 rfl]; exact s2, by rw [e 7 1 rfl]; exact s3, fun t ht => by rw [e 20 t rfl]; exact s4 t ht, fun k hk => by rw [e 35 k rfl]; exact s5 k hk, by rw [e 7 10 rfl]; exact s6, fun t ht => by rw [e 22 t rfl]; exact s7 t ht⟩, fun k hk => ?_, gH.fr (ek kGH (fun b i q => by simp only [kGH, Bool.or_eq_true, Bool.and_eq_true, beq_iff_eq] at q; omega)), gW.fr (ek kGW (fun b i q => by simp only [kGW, Bool.or_eq_true, Bool.and_eq_true, beq_iff_eq] at q; omega)), gR.fr (ek kGR (fun b i q => by simp only [kGR, Bool.or_eq_true, Bool.and_eq_true, beq_iff_eq] at q; omega)), gJ.fr (ek kGJ (fun b i q => by simp only [kGJ, Bool.or_eq_true, Bool.and_eq_true, beq_iff_eq] at q; omega)), gT.fr (ek kGT (fun b i q => by simp only [kGT, Bool.or_eq_true, Bool.and_eq_true, beq_iff_eq] at q; omega)), gI.fr (ek kGI (fun b i q => by simp only [kGI, Bool.or_eq_true, Bool.and_eq_true, beq_iff_eq] at q; omega)), gD.fr (ek kGD (fun b i q => by simp only [kGD, Bool.or_eq_true, Bool.and_eq_true, beq_iff_eq] at q; omega)), gSp.fr (ek kGp (fun b i q => by simp only [kGp, Bool.or_eq_true, Bool.and_eq_true, beq_iff_eq] at q; omega)), gU.fr (ek kGU (fun b i q => by simp only [kGU, Bool.or_eq_true, Bool.and_eq_true, beq_iff_eq] at q; omega)) e2⟩
  have ef : fromF M' k = fromF M k := by unfold fromF; rw [e 25 k rfl, e 27 k rfl]
  have et : toF M' k = toF M k := by unfold toF; rw [e 25 k rfl, e 26 k rfl, e 28 k rfl, e 27 k rfl, e 22 _ rfl]
  have e22 : ∀ i, M'.1 22 i = M.1 22 i := fun i => e 22 i rfl
  unfold frN toN
  simp only [ef, et, e 26 k rfl, e22]
  exact gA k hk
theorem INV.sh (hT2 : nT ≤ 12) (hR2 : nR ≤ 3) (hA2 : nA ≤ 150) (hC : CPL c M nT nR nA) (hG : GMI M nT nR nA) (hN : TMI M nA nw) (hL : LEV L s c) (hF : FRJ wSh c c') (ek : ∀ f : Nat → Nat → Bool, (∀ b i, f b i = true → ¬ (b = 47 ∨ b = 48 ∨ (b = 7 ∧ i = 42))) → EK f M M') (e2 : M'.2 = M.2) (hS : SHC c' M') : INV L s c' M' nw := by
  obtain ⟨c1, c2, c3, c4, ⟨c5, c6, c7⟩, c8, c9⟩ := hC
  refine ⟨nT, nR, nA, hT2, hR2, hA2, ⟨hF.sk c1, hF.skd c2, hF.skm c3, c4.sh hF ek e2, ⟨?_, ?_, ?_⟩, hS, hF.frs c9⟩, hG.it ek e2, hN.fr (ek kTM (fun b i q => by simp only [kTM, Bool.or_eq_true, Bool.and_eq_true, beq_iff_eq] at q; omega)), hF.lev (fun i j z => by unfold wSh at z; omega) hL⟩
  · rw [hF.I (fun z => by unfold wSh at z; omega)]
    exact c5
  · rw [hF.I (fun z => by unfold wSh at z; omega)]
    exact c6
  · rw [hF.I (fun z => by unfold wSh at z; omega)]
    exact c7
theorem tsum_c {f g : Nat → Nat} : ∀ n, (∀ i, i < n → f i = g i) → tsum f n = tsum g n
  | 0, _ => rfl
  | n + 1, h => by
    show tsum f n + f n = tsum g n + g n
    rw [tsum_c n (fun i hi => h i (by omega)), h n (by omega)]
theorem SHC.item (h : SHC c M) {n a b : Nat} (hn : M.1 7 42 = nI n) (hn8 : n < 8) (ha : a ≤ 50) (hb : b ≤ 1000) : SHC (itC c n (nI a) (nI b)) (uI (uI (uI M 47 n (nI a)) 48 n (nI b)) 7 42 (nI (n + 1))) := by
  obtain ⟨m, sz, ct, ⟨h1, h2, h3, h4⟩, ⟨i1, i2, i3⟩, h5⟩ := h
  have hm : m = n := by
    rw [hn, nI_eq_iff] at i2
    exact i2.symm
  subst hm
  refine ⟨m + 1, fun i => if i = m then a else sz i, fun i => if i = m then b else ct i, ⟨by omega, ?_, ?_, fun i hi => ?_⟩, ⟨by omega, ?_, fun i hi => ?_⟩, Or.inr ?_⟩
  · unfold itC
    simp only [mI_wI, mJ_wI, mP_wI, mL_wI, mA_wI, mI_wJ, mJ_wJ, mP_wJ, mL_wJ, mA_wJ, uI_1, uI_2, uJ_1, uJ_2, Nat.reduceEqDiff, false_and, and_false, true_and, and_true, reduceIte]
  · unfold itC
    simp only [mI_wI, mJ_wI, mP_wI, mL_wI, mA_wI, mI_wJ, mJ_wJ, mP_wJ, mL_wJ, mA_wJ, uI_1, uI_2, uJ_1, uJ_2, Nat.reduceEqDiff, false_and, and_false, true_and, and_true, reduceIte]
    rw [h3, nI_add]
    congr 1
    show tsum ct m + b = tsum _ m + (if m = m then b else ct m)
    have e : tsum (fun i => if i = m then b else ct i) m = tsum ct m := tsum_c m (fun i hi => if_neg (by omega))
    rw [if_pos rfl, e]
  · unfold itC
    simp only [mI_wI, mJ_wI, mP_wI, mL_wI, mA_wI, mI_wJ, mJ_wJ, mP_wJ, mL_wJ, mA_wJ, uI_1, uI_2, uJ_1, uJ_2, Nat.reduceEqDiff, false_and, and_false, true_and, and_true, reduceIte]
    by_cases e : i = m
    · rw [if_pos e, if_pos e, if_pos e, if_pos e]
      exact ⟨rfl, ha, rfl, hb⟩
    · rw [if_neg e, if_neg e, if_neg e, if_neg e]
      exact h4 i (by omega)
  · simp only [mI_wI, mJ_wI, mP_wI, mL_wI, mA_wI, mI_wJ, mJ_wJ, mP_wJ, mL_wJ, mA_wJ, uI_1, uI_2, uJ_1, uJ_2, Nat.reduceEqDiff, false_and, and_false, true_and, and_true, reduceIte]
  · simp only [mI_wI, mJ_wI, mP_wI, mL_wI, mA_wI, mI_wJ, mJ_wJ, mP_wJ, mL_wJ, mA_wJ, uI_1, uI_2, uJ_1, uJ_2, Nat.reduceEqDiff, false_and, and_false, true_and, and_true, reduceIte]
    by_cases e : i = m
    · rw [if_pos e, if_pos e, if_pos e, if_pos e]
      exact ⟨rfl, ha, rfl, hb⟩
    · rw [if_neg e, if_neg e, if_neg e, if_neg e]
      exact i3 i (by omega)
  · unfold itC
    simp only [mI_wI, mJ_wI, mP_wI, mL_wI, mA_wI, mI_wJ, mJ_wJ, mP_wJ, mL_wJ, mA_wJ, uI_1, uI_2, uJ_1, uJ_2, Nat.reduceEqDiff, false_and, and_false, true_and, and_true, reduceIte]
theorem SHC.clear (c : HP) (M : MD) : SHC (emC c) (uI M 7 42 0) := by
  refine ⟨0, fun _ => 0, fun _ => 0, ⟨by omega, ?_, ?_, fun i hi => by omega⟩, ⟨by omega, ?_, fun i hi => by omega⟩, Or.inl ⟨?_, ?_, fun i hi => by omega⟩⟩
  · unfold emC
    simp only [mI_wI, mJ_wI, mP_wI, mL_wI, mA_wI, mI_wJ, mJ_wJ, mP_wJ, mL_wJ, mA_wJ, uI_1, uI_2, uJ_1, uJ_2, Nat.reduceEqDiff, false_and, and_false, true_and, and_true, reduceIte]
    rfl
  · unfold emC
    simp only [mI_wI, mJ_wI, mP_wI, mL_wI, mA_wI, mI_wJ, mJ_wJ, mP_wJ, mL_wJ, mA_wJ, uI_1, uI_2, uJ_1, uJ_2, Nat.reduceEqDiff, false_and, and_false, true_and, and_true, reduceIte]
    rfl
  · simp only [mI_wI, mJ_wI, mP_wI, mL_wI, mA_wI, mI_wJ, mJ_wJ, mP_wJ, mL_wJ, mA_wJ, uI_1, uI_2, uJ_1, uJ_2, Nat.reduceEqDiff, false_and, and_false, true_and, and_true, reduceIte]
    rfl
  · unfold emC
    simp only [mI_wI, mJ_wI, mP_wI, mL_wI, mA_wI, mI_wJ, mJ_wJ, mP_wJ, mL_wJ, mA_wJ, uI_1, uI_2, uJ_1, uJ_2, Nat.reduceEqDiff, false_and, and_false, true_and, and_true, reduceIte]
  · unfold emC
    simp only [mI_wI, mJ_wI, mP_wI, mL_wI, mA_wI, mI_wJ, mJ_wJ, mP_wJ, mL_wJ, mA_wJ, uI_1, uI_2, uJ_1, uJ_2, Nat.reduceEqDiff, false_and, and_false, true_and, and_true, reduceIte]
    rfl
end ZOPS
section ZOPSb
variable {l : Launch} {D : DD} {d : Nat} {c : HP} {M : MD} {Q : List Value → HP → Prop} {L B : Nat} {s : Nat → Int32}
theorem op_arm (h : INB L s c M B) (x w : Int32) (H : ∀ r, (∀ Q' : List Value → HP → Prop, (∀ M', INB L s c M' B → Q' [.int r] (pm c M')) → K_X7_arm l D (d + 20) [.ref (ob 7 0), .int x, .int w] (pm c M) Q') → Q [.int r] (pm c M)) : K_X6_arm l D (d + 20) [.ref (ob 6 0), .int x, .int w] (pm c M) Q := by
  obtain ⟨nw, hB, nT, nR, nA, hT2, hR2, hA2, hC, hG, hN, hL⟩ := id h
  obtain ⟨c1, c2, c3, c4, ⟨c5, c6, c7⟩, c8, c9⟩ := id hC
  refine sp_arm6 c1 c4.1.2.2.2.2.1 x w (fun r hr => H r (fun Q' H' => ?_))
  refine sp_arm c3 x w (fun r' M' g hr' => ?_)
  have e : r' = r := by
    rcases hr with ⟨k, k1, k2, k3⟩ | ⟨k1, k2⟩ <;> rcases hr' with ⟨j, j1, j2, j3⟩ | ⟨j1, j2⟩
    · rw [k2, nI_eq_iff] at j2
      rw [k3, j3, j2]
    · exact absurd k2 (j1 k k1)
    · exact absurd j2 (k1 j j1)
    · rw [k2, j2]
  rw [e]
  exact H' _ (h.sc g)
theorem op_rig (h : INB L s c M B) (x w : Int32) (H : ∀ r, (∀ Q' : List Value → HP → Prop, (∀ M', INB L s c M' B → Q' [.int r] (pm c M')) → K_X7_rig l D (d + 20) [.ref (ob 7 0), .int x, .int w] (pm c M) Q') → Q [.int r] (pm c M)) : K_X6_rig l D (d + 20) [.ref (ob 6 0), .int x, .int w] (pm c M) Q := by
  obtain ⟨nw, hB, nT, nR, nA, hT2, hR2, hA2, hC, hG, hN, hL⟩ := id h
  obtain ⟨c1, c2, c3, c4, ⟨c5, c6, c7⟩, c8, c9⟩ := id hC
  refine sp_rig6 c1 c2 hR2 c4.1.2.2.2.1 hG.2.2.2.1 x w (fun r hr => H r (fun Q' H' => ?_))
  refine sp_rig c3 hG.1.1 hR2 x w (fun r' M' g hr' => ?_)
  have e : r' = r := by
    rcases hr with ⟨k, k1, k2, k3⟩ | ⟨k1, k2⟩ <;> rcases hr' with ⟨j, j1, j2, j3⟩ | ⟨j1, j2⟩
    · rw [k2, nI_eq_iff] at j2
      rw [k3, j3, j2]
    · exact absurd k2 (j1 k k1)
    · exact absurd j2 (k1 j j1)
    · rw [k2, j2]
  rw [e]
  exact H' _ (h.sc g)
theorem op_tapeOf (h : INB L s c M B) (x w : Int32) (H : ∀ r, (∀ Q' : List Value → HP → Prop, (∀ M', INB L s c M' B → Q' [.int r] (pm c M')) → K_X7_tapeOf l D (d + 20) [.ref (ob 7 0), .int x, .int w] (pm c M) Q') → Q [.int r] (pm c M)) : K_X6_tapeOf l D (d + 20) [.ref (ob 6 0), .int x, .int w] (pm c M) Q := by
  obtain ⟨nw, hB, nT, nR, nA, hT2, hR2, hA2, hC, hG, hN, hL⟩ := id h
  obtain ⟨c1, c2, c3, c4, ⟨c5, c6, c7⟩, c8, c9⟩ := id hC
  refine sp_tapeOf6 c1 c2 hT2 hA2 c4.1.1 c4.1.2.1 c4.1.2.2.1 hG.1.2.2.2.1 c4.1.2.2.2.2.2.1 x w (fun r hr => H r (fun Q' H' => ?_))
  refine sp_tapeOf c3 hG.1.2.2.1 hT2 hG.1.2.1 hA2 x w (fun r' M' g hr' => ?_)
  have e : r' = r := by
    rcases hr with ⟨k, k1, k2, k3⟩ | ⟨k1, k2⟩ <;> rcases hr' with ⟨j, j1, j2, j3⟩ | ⟨j1, j2⟩
    · rw [k2, nI_eq_iff] at j2
      rw [k3, j3, j2]
    · exact absurd k2 (j1 k k1)
    · exact absurd j2 (k1 j j1)
    · rw [k2, j2]
  rw [e]
  exact H' _ (h.sc g)
theorem op_askOf (h : INB L s c M B) (x w : Int32) (H : ∀ r, (∀ Q' : List Value → HP → Prop, (∀ M', INB L s c M' B → Q' [.long r] (pm c M')) → K_X7_askOf l D (d + 20) [.ref (ob 7 0), .int x, .int w] (pm c M) Q') → Q [.long r] (pm c M)) : K_X6_askOf l D (d + 20) [.ref (ob 6 0), .int x, .int w] (pm c M) Q := by
  obtain ⟨nw, hB, nT, nR, nA, hT2, hR2, hA2, hC, hG, hN, hL⟩ := id h
  obtain ⟨c1, c2, c3, c4, ⟨c5, c6, c7⟩, c8, c9⟩ := id hC
  refine sp_askOf6 c1 c2 hA2 c4.1.1 x w (fun r hr => H r (fun Q' H' => ?_))
  refine sp_askOf c3 hG.1.2.1 hA2 x w (fun r' M' g hr' => ?_)
  have e : r' = r := by
    rcases hr with ⟨k, k1, k2, k3⟩ | ⟨k1, k2⟩ <;> rcases hr' with ⟨j, j1, j2, j3⟩ | ⟨j1, j2⟩
    · rw [k2, nI_eq_iff] at j2
      rw [k3, j3, j2]
    · exact absurd k2 (j1 k k1)
    · exact absurd j2 (k1 j j1)
    · rw [k2, j2]
  rw [e]
  exact H' _ (h.sc g)
theorem op_count (h : INB L s c M B) (w : Int32) (H : ∀ r, (∀ Q' : List Value → HP → Prop, (∀ M', INB L s c M' B → Q' [.int r] (pm c M')) → K_X7_count l D (d + 20) [.ref (ob 7 0), .int w] (pm c M) Q') → Q [.int r] (pm c M)) : K_X6_count l D (d + 20) [.ref (ob 6 0), .int w] (pm c M) Q := by
  obtain ⟨nw, hB, nT, nR, nA, hT2, hR2, hA2, hC, hG, hN, hL⟩ := id h
  obtain ⟨c1, c2, c3, c4, ⟨c5, c6, c7⟩, ⟨n, sz, ct, q1, q2, q3⟩, c9⟩ := id hC
  refine sp_count6 c1 c2 hA2 c4.1.1 (c5.trans hG.1.2.2.1.symm) (c6.trans hG.1.1.symm) (c7.trans hG.1.2.1.symm) c4.1.2.2.2.2.2.1 c4.2.2.2.1 c4.2.2.2.2 q1.2.1 q2.2.1 w (H _ (fun Q' H' => ?_))
  exact sp_count c3 hG.1.2.1 hA2 w (fun M' g => H' _ (h.sc g))
theorem op_order (h : INB L s c M B) (x y : Int32) (H : ∀ r c1, PRE L s c1 → (∀ Q' : List Value → HP → Prop, (∀ M', INB L s c1 M' B → Q' [.int r] (pm c1 M')) → K_X7_order l D (d + 20) [.ref (ob 7 0), .int x, .int y] (pm c1 M) Q') → Q [.int r] (pm c1 M)) : K_X6_order l D (d + 20) [.ref (ob 6 0), .int x, .int y] (pm c M) Q := by
  obtain ⟨nw, hB, nT, nR, nA, hT2, hR2, hA2, hC, hG, hN, hL⟩ := id h
  obtain ⟨c1, c2, c3, c4, ⟨c5, c6, c7⟩, c8, c9⟩ := id hC
  refine sp_order6 c1 c2 hT2 hA2 c4 hG.2.1 hG.2.2.1 x y (fun r c' hF hP hr => ?_)
  have hp : PRE L s c' := ⟨hF.j.skm c3, hF.j.lev (fun i j z => by have := z.2; omega) hL⟩
  refine H r c' hp (fun Q' H' => ?_)
  have hI : INV L s c' M nw := INV.tk hT2 hR2 hA2 hC hL (hF.j.mo (fun a i j z => by have := z.2; unfold wTk; omega)) (c4.plan hF hP) (EK.rf _ _) hG hN
  refine sp_order (hF.j.skm c3) hG.1.2.2.1 hG.1.2.1 hA2 hT2 hG.2.1 hG.2.2.1 x y (fun r' M' g hr' => ?_)
  have e : r' = r := by
    rcases hr with ⟨t, i, t1, t2, t3, t4, t5⟩ | ⟨k1, k2⟩ <;> rcases hr' with ⟨u, j, u1, u2, u3, u4, u5⟩ | ⟨j1, j2⟩
    · rw [t2, nI_eq_iff] at u2
      subst u2
      have := gl_len M t nA
      rw [t4, nI_eq_iff] at u4
      rw [t5, u5, u4]
    · exact absurd t4 (j1 t i t1 t2 t3)
    · exact absurd u4 (k1 u j u1 u2 u3)
    · rw [k2, j2]
  rw [e]
  exact H' _ (INB.sc ⟨nw, hB, hI⟩ g)
theorem op_told (h : INB L s c M B) (x w : Int32) (H : ∀ r c1, PRE L s c1 → (∀ Q' : List Value → HP → Prop, (∀ M', INB L s c1 M' B → Q' [.int r] (pm c1 M')) → K_X7_told l D (d + 20) [.ref (ob 7 0), .int x, .int w] (pm c1 M) Q') → Q [.int r] (pm c1 M)) : K_X6_told l D (d + 20) [.ref (ob 6 0), .int x, .int w] (pm c M) Q := by
  obtain ⟨nw, hB, nT, nR, nA, hT2, hR2, hA2, hC, hG, hN, hL⟩ := id h
  obtain ⟨c1, c2, c3, c4, ⟨c5, c6, c7⟩, c8, c9⟩ := id hC
  refine sp_told6 c1 c2 hT2 hA2 c4 hG.2.1 hG.2.2.1 x w (fun r c' hF hP hr => ?_)
  have hp : PRE L s c' := ⟨hF.j.skm c3, hF.j.lev (fun i j z => by have := z.2; omega) hL⟩
  refine H r c' hp (fun Q' H' => ?_)
  have hI : INV L s c' M nw := INV.tk hT2 hR2 hA2 hC hL (hF.j.mo (fun a i j z => by have := z.2; unfold wTk; omega)) (c4.plan hF hP) (EK.rf _ _) hG hN
  refine sp_told (hF.j.skm c3) hG.1.2.2.1 hG.1.2.1 hA2 hT2 hG.2.1 hG.2.2.1 x w (fun r' M' g hr' => ?_)
  have e : r' = r := by
    have no : ∀ t, t < nT → x = nI t → (w = 0 ∨ w = 1 ∨ w = 2) → ¬ ((∀ t, t < nT → ¬ x = nI t) ∨ ¬ (0 ≤ w ∧ w ≤ 2)) := fun t t1 t2 hw z => by
      rcases z with z | z
      · exact z t t1 t2
      · rcases hw with rfl | rfl | rfl <;> exact z (by decide)
    rcases hr with ⟨t, t1, t2, t3⟩ | ⟨k1, k2⟩ <;> rcases hr' with ⟨u, u1, u2, u3⟩ | ⟨j1, j2⟩
    · rw [t2, nI_eq_iff] at u2
      subst u2
      rcases t3 with ⟨rfl, t3⟩ | ⟨rfl, t3⟩ | ⟨rfl, t3⟩ <;> rcases u3 with ⟨u4, u3⟩ | ⟨u4, u3⟩ | ⟨u4, u3⟩ <;> first | exact u3.trans t3.symm | exact absurd u4 (by decide)
    · refine absurd j1 (no t t1 t2 ?_)
      rcases t3 with ⟨q, -⟩ | ⟨q, -⟩ | ⟨q, -⟩
      · exact Or.inl q
      · exact Or.inr (Or.inl q)
      · exact Or.inr (Or.inr q)
    · refine absurd k1 (no u u1 u2 ?_)
      rcases u3 with ⟨q, -⟩ | ⟨q, -⟩ | ⟨q, -⟩
      · exact Or.inl q
      · exact Or.inr (Or.inl q)
      · exact Or.inr (Or.inr q)
    · rw [k2, j2]
  rw [e]
  exact H' _ (INB.sc ⟨nw, hB, hI⟩ g)
theorem op_breaks (h : INB L s c M B) (x : Int32) (H : ∀ r c1, PRE L s c1 → (∀ Q' : List Value → HP → Prop, (∀ M', INB L s c1 M' B → Q' [.int r] (pm c1 M')) → K_X7_breaks l D (d + 20) [.ref (ob 7 0), .int x] (pm c1 M) Q') → Q [.int r] (pm c1 M)) : K_X6_breaks l D (d + 20) [.ref (ob 6 0), .int x] (pm c M) Q := by
  obtain ⟨nw, hB, nT, nR, nA, hT2, hR2, hA2, hC, hG, hN, hL⟩ := id h
  obtain ⟨c1, c2, c3, c4, ⟨c5, c6, c7⟩, c8, c9⟩ := id hC
  refine sp_breaks6 c1 c2 hT2 hR2 hA2 c4 hG x (fun r c' hr => ?_)
  have hp : PRE L s c' := by
    rcases hr with ⟨k, k1, k2, k3, k4, k5, k6, k7⟩ | ⟨k1, k2, rfl⟩
    · exact ⟨k7.skm c3, k7.lev (fun i j z => by unfold wTk at z; omega) hL⟩
    · exact ⟨c3, hL⟩
  refine H r c' hp (fun Q' H' => ?_)
  have hs : SKM c' := by
    rcases hr with ⟨k, k1, k2, k3, k4, k5, k6, k7⟩ | ⟨k1, k2, rfl⟩
    · exact k7.skm c3
    · exact c3
  refine sp_breaks hs hG.1.1 hR2 hA2 hG.2.2.2.1 x (fun r' M' hr' => ?_)
  have ek : ∀ k, ∀ f : Nat → Nat → Bool, (∀ b i, f b i = true → ¬ (b = 30 ∨ b = 36 ∨ b = 39 ∨ b = 40)) → EK f M (breaksM M k) := fun k f q b i y => breaksM_ne (q b i y) i
  rcases hr with ⟨k, k1, k2, k3, k4, rfl, k6, k7⟩ | ⟨k1, rfl, rfl⟩ <;> rcases hr' with ⟨j, j1, j2, j3, j4, rfl, j6⟩ | ⟨j1, rfl, j3⟩
  · rw [k2, nI_eq_iff] at j2
    subst j2
    have ek := ek k
    exact H' _ (INB.sc ⟨nw, hB, INV.tk hT2 hR2 hA2 hC hL k7 k6 (ek kS (fun b i q => by simp only [kS, Bool.or_eq_true, Bool.and_eq_true, beq_iff_eq] at q; omega)) (hG.breaks hT2 hR2 k1 k3 k4) (hN.fr (ek kTM (fun b i q => by simp only [kTM, Bool.or_eq_true, Bool.and_eq_true, beq_iff_eq] at q; omega)))⟩ j6)
  · rcases j1 k k1 k2 with z | z
    · exact absurd z k3
    · exact absurd z k4
  · rcases k1 j j1 j2 with z | z
    · exact absurd z j3
    · exact absurd z j4
  · exact H' _ (h.sc j3)
theorem op_mends (h : INB L s c M B) (x : Int32) (H : ∀ r c1, PRE L s c1 → (∀ Q' : List Value → HP → Prop, (∀ M', INB L s c1 M' B → Q' [.int r] (pm c1 M')) → K_X7_mends l D (d + 20) [.ref (ob 7 0), .int x] (pm c1 M) Q') → Q [.int r] (pm c1 M)) : K_X6_mends l D (d + 20) [.ref (ob 6 0), .int x] (pm c M) Q := by
  obtain ⟨nw, hB, nT, nR, nA, hT2, hR2, hA2, hC, hG, hN, hL⟩ := id h
  obtain ⟨c1, c2, c3, c4, ⟨c5, c6, c7⟩, c8, c9⟩ := id hC
  refine sp_mends6 c1 c2 hR2 c4.1.2.2.2.1 x (fun r c' hr => ?_)
  have hp : PRE L s c' := by
    rcases hr with ⟨k, k1, k2, k3, k4, rfl⟩ | ⟨k1, k2, rfl⟩
    · exact ⟨c3, ((FRJ.rf wTk c).w _ (by unfold wTk; omega)).lev (fun i j z => by unfold wTk at z; omega) hL⟩
    · exact ⟨c3, hL⟩
  refine H r c' hp (fun Q' H' => ?_)
  have hs : SKM c' := by
    rcases hr with ⟨k, k1, k2, k3, k4, rfl⟩ | ⟨k1, k2, rfl⟩
    · exact c3
    · exact c3
  refine sp_mends hs hG.1.1 hR2 x (fun r' M' hr' => ?_)
  rcases hr with ⟨k, k1, k2, k3, rfl, rfl⟩ | ⟨k1, rfl, rfl⟩ <;> rcases hr' with ⟨j, j1, j2, j3, rfl, j6⟩ | ⟨j1, rfl, j3⟩
  · rw [k2, nI_eq_iff] at j2
    subst j2
    refine H' _ (INB.sc ⟨nw, hB, INV.tk hT2 hR2 hA2 hC hL ((FRJ.rf wTk c).w _ (by unfold wTk; omega)) (c4.w32 k _ (fun z => ?_)) ((EK.rf _ _).w _ rfl) (hG.mends hT2 k1 k3) (hN.fr ((EK.rf _ _).w _ rfl))⟩ j6)
    split at z <;> exact absurd z (by decide)
  · exact absurd k3 (j1 k k1 k2)
  · exact absurd j3 (k1 j j1 j2)
  · exact H' _ (h.sc j3)
theorem op_settings (h : INB L s c M B) (x y : Int32) (H : ∀ r c1, PRE L s c1 → (∀ Q' : List Value → HP → Prop, (∀ M', INB L s c1 M' B → Q' [.int r] (pm c1 M')) → K_X7_settings l D (d + 20) [.ref (ob 7 0), .int x, .int y] (pm c1 M) Q') → Q [.int r] (pm c1 M)) : K_X6_settings l D (d + 20) [.ref (ob 6 0), .int x, .int y] (pm c M) Q := by
  obtain ⟨nw, hB, nT, nR, nA, hT2, hR2, hA2, hC, hG, hN, hL⟩ := id h
  obtain ⟨c1, c2, c3, c4, ⟨c5, c6, c7⟩, c8, c9⟩ := id hC
  refine sp_settings6 c1 x y (fun r c' hr => ?_)
  have hF : FRJ (fun a b _ => a = 6 ∧ (b = 11 ∨ b = 12)) c c' := by
    rcases hr with ⟨-, -, rfl⟩ | ⟨-, -, rfl⟩
    · exact ((FRJ.rf _ c).w _ ⟨rfl, Or.inl rfl⟩).w _ ⟨rfl, Or.inr rfl⟩
    · exact FRJ.rf _ _
  refine H r c' ⟨hF.skm c3, hF.lev (fun i j z => by omega) hL⟩ (fun Q' H' => ?_)
  refine sp_settings (hF.skm c3) x y (fun r' M' hr' => ?_)
  rcases hr with ⟨rfl, k1, rfl⟩ | ⟨rfl, k1, rfl⟩ <;> rcases hr' with ⟨rfl, j1, j2⟩ | ⟨rfl, j1, j2⟩
  · have ek : ∀ f : Nat → Nat → Bool, (∀ b i, f b i = true → ¬ (b = 7 ∧ (i = 10 ∨ i = 11))) → EK f M (uI (uI M 7 10 x) 7 11 y) := fun f q b i w => by rw [uI_1, if_neg (fun z => q b i w ⟨z.1, Or.inr z.2⟩), uI_1, if_neg (fun z => q b i w ⟨z.1, Or.inl z.2⟩)]
    have e7 : ∀ i, i ≠ 10 → i ≠ 11 → (uI (uI M 7 10 x) 7 11 y).1 7 i = M.1 7 i := fun i a b => by rw [uI_1, if_neg (by omega), uI_1, if_neg (by omega)]
    obtain ⟨n, sz, ct, q1, ⟨q2, q3, q4⟩, q5⟩ := c8
    have hI : INV L s (wI (wI c 6 11 0 x) 6 12 0 y) (uI (uI M 7 10 x) 7 11 y) nw := ⟨nT, nR, nA, hT2, hR2, hA2, ⟨hF.sk c1, hF.skd c2, hF.skm c3, c4.set7 x y, ⟨by simp only [mI_wI, mJ_wI, mP_wI, mL_wI, mA_wI, mI_wJ, mJ_wJ, mP_wJ, mL_wJ, mA_wJ, uI_1, uI_2, uJ_1, uJ_2, Nat.reduceEqDiff, false_and, and_false, true_and, and_true, reduceIte]; exact c5, by simp only [mI_wI, mJ_wI, mP_wI, mL_wI, mA_wI, mI_wJ, mJ_wJ, mP_wJ, mL_wJ, mA_wJ, uI_1, uI_2, uJ_1, uJ_2, Nat.reduceEqDiff, false_and, and_false, true_and, and_true, reduceIte]; exact c6, by simp only [mI_wI, mJ_wI, mP_wI, mL_wI, mA_wI, mI_wJ, mJ_wJ, mP_wJ, mL_wJ, mA_wJ, uI_1, uI_2, uJ_1, uJ_2, Nat.reduceEqDiff, false_and, and_false, true_and, and_true, reduceIte]; exact c7⟩, ⟨n, sz, ct, q1, ⟨q2, q3, q4⟩, q5⟩, hF.frs c9⟩, hG.set7 k1.1.1, hN.fr (ek kTM (fun b i q => by simp only [kTM, Bool.or_eq_true, Bool.and_eq_true, beq_iff_eq] at q; omega)), hF.lev (fun i j z => by omega) hL⟩
    exact H' _ (INB.sc ⟨nw, hB, hI⟩ j2)
  · exact absurd k1 j1
  · exact absurd j1 k1
  · exact H' _ (h.sc j2)
theorem op_item (h : INB L s c M B) (x y : Int32) (H : ∀ r c1, PRE L s c1 → (∀ Q' : List Value → HP → Prop, (∀ M', INB L s c1 M' B → Q' [.int r] (pm c1 M')) → K_X7_item l D (d + 20) [.ref (ob 7 0), .int x, .int y] (pm c1 M) Q') → Q [.int r] (pm c1 M)) : K_X6_item l D (d + 20) [.ref (ob 6 0), .int x, .int y] (pm c M) Q := by
  obtain ⟨nw, hB, nT, nR, nA, hT2, hR2, hA2, hC, hG, hN, hL⟩ := id h
  obtain ⟨c1, c2, c3, c4, ⟨c5, c6, c7⟩, c8, c9⟩ := id hC
  obtain ⟨n, sz, ct, q1, q2, q5⟩ := id c8
  refine sp_item6 c1 q1.2.1 q1.1 x y (fun r c' hr => ?_)
  have hF : FRJ wSh c c' := by
    rcases hr with ⟨-, -, rfl⟩ | ⟨-, -, rfl⟩
    · exact (((((FRJ.rf wSh c).w _ (by unfold wSh; omega)).w _ (by unfold wSh; omega)).w _ (by unfold wSh; omega)).w _ (by unfold wSh; omega)).w _ (by unfold wSh; omega)
    · exact FRJ.rf _ _
  refine H r c' ⟨hF.skm c3, hF.lev (fun i j z => by unfold wSh at z; omega) hL⟩ (fun Q' H' => ?_)
  refine sp_item (hF.skm c3) q2.2.1 q2.1 x y (fun r' M' hr' => ?_)
  rcases hr with ⟨k1, rfl, rfl⟩ | ⟨k1, rfl, rfl⟩ <;> rcases hr' with ⟨j1, rfl, j2⟩ | ⟨j1, rfl, j2⟩
  · obtain ⟨a, a1, a2⟩ := in_nI (x := x) (n := 51) (by omega) ⟨Int32.le_trans (by decide) k1.1.1, by rw [show nI 51 - 1 = 50 by decide]; exact k1.1.2⟩
    obtain ⟨b, b1, b2⟩ := in_nI (x := y) (n := 1001) (by omega) ⟨k1.2.1.1, by rw [show nI 1001 - 1 = 1000 by decide]; exact k1.2.1.2⟩
    have ek : ∀ f : Nat → Nat → Bool, (∀ b i, f b i = true → ¬ (b = 47 ∨ b = 48 ∨ (b = 7 ∧ i = 42))) → EK f M (uI (uI (uI M 47 n x) 48 n y) 7 42 (nI (n + 1))) := fun f q b i w => by rw [uI_1, if_neg (fun z => q b i w (Or.inr (Or.inr z))), uI_1, if_neg (fun z => q b i w (Or.inr (Or.inl z.1))), uI_1, if_neg (fun z => q b i w (Or.inl z.1))]
    have hS := c8.item (a := a) (b := b) q2.2.1 k1.2.2 (by omega) (by omega)
    rw [← a2, ← b2] at hS
    exact H' _ (INB.sc ⟨nw, hB, INV.sh hT2 hR2 hA2 hC hG hN hL hF ek rfl hS⟩ j2)
  · exact absurd k1 j1
  · exact absurd j1 k1
  · exact H' _ (h.sc j2)
theorem op_laid (h : INB L s c M B) (H : ∀ r c1, PRE L s c1 → (∀ Q' : List Value → HP → Prop, (∀ M', INB L s c1 M' B → Q' [.long r] (pm c1 M')) → K_X7_laid l D (d + 20) [.ref (ob 7 0)] (pm c1 M) Q') → Q [.long r] (pm c1 M)) : K_X6_laid l D (d + 20) [.ref (ob 6 0)] (pm c M) Q := by
  obtain ⟨nw, hB, nT, nR, nA, hT2, hR2, hA2, hC, hG, hN, hL⟩ := id h
  obtain ⟨c1, c2, c3, c4, ⟨c5, c6, c7⟩, c8, c9⟩ := id hC
  obtain ⟨n, sz, ct, q1, q2, q5⟩ := id c8
  refine sp_laid6 c1 q1 q5 (fun c' g1 g2 g3 => ?_)
  have hF : FRJ wSh c c' := g1.mo (fun a i j z => by have := z.2; unfold wSh; omega)
  refine H _ c' ⟨hF.skm c3, hF.lev (fun i j z => by unfold wSh at z; omega) hL⟩ (fun Q' H' => ?_)
  exact sp_laid (hF.skm c3) q2 (fun M' g => H' _ (INB.sc ⟨nw, hB, INV.sh hT2 hR2 hA2 hC hG hN hL hF (fun f _ => EK.rf _ _) rfl ⟨n, sz, ct, q1.fr g1, q2, Or.inl ⟨g2, g3⟩⟩⟩ g))
theorem op_begins (h : INB L s c M B) (x : Int32) (H : ∀ r c1, PRE L s c1 → (∀ Q' : List Value → HP → Prop, (∀ M', INB L s c1 M' B → Q' [.int r] (pm c1 M')) → K_X7_begins_ l D (d + 20) [.ref (ob 7 0), .int x] (pm c1 M) Q') → Q [.int r] (pm c1 M)) : K_X6_begins l D (d + 20) [.ref (ob 6 0), .int x] (pm c M) Q := by
  obtain ⟨nw, hB, nT, nR, nA, hT2, hR2, hA2, hC, hG, hN, hL⟩ := id h
  obtain ⟨c1, c2, c3, c4, ⟨c5, c6, c7⟩, c8, c9⟩ := id hC
  obtain ⟨n, sz, ct, q1, q2, q5⟩ := id c8
  refine sp_begins6 c1 q1 q5 x (fun r c' hr => ?_)
  have hp : PRE L s c' := by
    rcases hr with ⟨i, i1, i2, i3, g1, g2, g3⟩ | ⟨-, -, rfl⟩
    · exact ⟨g1.skm c3, g1.lev (fun i j z => by have := z.2; omega) hL⟩
    · exact ⟨c3, hL⟩
  refine H r c' hp (fun Q' H' => ?_)
  have hI : SKM c' ∧ INV L s c' M nw := by
    rcases hr with ⟨i, i1, i2, i3, g1, g2, g3⟩ | ⟨-, -, rfl⟩
    · have hF : FRJ wSh c c' := g1.mo (fun a i j z => by have := z.2; unfold wSh; omega)
      exact ⟨hF.skm c3, INV.sh hT2 hR2 hA2 hC hG hN hL hF (fun f _ => EK.rf _ _) rfl ⟨n, sz, ct, q1.fr g1, q2, Or.inl ⟨g2, g3⟩⟩⟩
    · exact ⟨c3, nT, nR, nA, hT2, hR2, hA2, hC, hG, hN, hL⟩
  have hn8 := q1.1
  refine sp_begins_ hI.1 q2 x (fun r' M' g hr' => ?_)
  have e : r' = r := by
    rcases hr with ⟨i, i1, i2, i3, -⟩ | ⟨k1, k2, -⟩ <;> rcases hr' with ⟨j, j1, j2, j3⟩ | ⟨j1, j2⟩
    · rw [i2, nI_eq_iff] at j2
      rw [i3, j3, j2]
    · exact absurd i2 (j1 i i1)
    · exact absurd j2 (k1 j j1)
    · rw [k2, j2]
  rw [e]
  exact H' _ (INB.sc ⟨nw, hB, hI.2⟩ g)
theorem op_clear (h : INB L s c M B) (H : ∀ r c1, PRE L s c1 → (∀ Q' : List Value → HP → Prop, (∀ M', INB L s c1 M' B → Q' [.int r] (pm c1 M')) → K_X7_clear l D (d + 20) [.ref (ob 7 0)] (pm c1 M) Q') → Q [.int r] (pm c1 M)) : K_X6_clear l D (d + 20) [.ref (ob 6 0)] (pm c M) Q := by
  obtain ⟨nw, hB, nT, nR, nA, hT2, hR2, hA2, hC, hG, hN, hL⟩ := id h
  obtain ⟨c1, c2, c3, c4, ⟨c5, c6, c7⟩, c8, c9⟩ := id hC
  obtain ⟨n, sz, ct, q1, q2, q5⟩ := id c8
  have hF : FRJ wSh c (emC c) := ((((FRJ.rf wSh c).w _ (by unfold wSh; omega)).w _ (by unfold wSh; omega)).v _ (by unfold wSh; omega)).w _ (by unfold wSh; omega)
  refine sp_clear6 c1 (H _ _ ⟨hF.skm c3, hF.lev (fun i j z => by unfold wSh at z; omega) hL⟩ (fun Q' H' => ?_))
  refine sp_clear (hF.skm c3) (fun M' g => ?_)
  have ek : ∀ f : Nat → Nat → Bool, (∀ b i, f b i = true → ¬ (b = 47 ∨ b = 48 ∨ (b = 7 ∧ i = 42))) → EK f M (uI M 7 42 0) := fun f q b i w => by rw [uI_1, if_neg (fun z => q b i w (Or.inr (Or.inr z)))]
  rw [q2.2.1, ← q1.2.1]
  exact H' _ (INB.sc ⟨nw, hB, INV.sh hT2 hR2 hA2 hC hG hN hL hF ek rfl (SHC.clear c M)⟩ g)
theorem op_tick (h : INB L s c M B) (hB9 : B + 400 < 1000000) (x : Int32) (H : ∀ r c1, PRE L s c1 → (∀ Q' : List Value → HP → Prop, (∀ M', INB L s c1 M' (B + 400) → Q' [.int r] (pm c1 M')) → K_X7_tick l D (d + 20) [.ref (ob 7 0), .int x] (pm c1 M) Q') → Q [.int r] (pm c1 M)) : K_X6_tick l D (d + 20) [.ref (ob 6 0), .int x] (pm c M) Q := by
  obtain ⟨nw, hB, nT, nR, nA, hT2, hR2, hA2, hC, hG, hN, hL⟩ := id h
  obtain ⟨c1, c2, c3, c4, ⟨c5, c6, c7⟩, c8, c9⟩ := id hC
  refine sp_tick6 c1 c2 hT2 hR2 hA2 c4 hG hN (by omega) x (fun r c' hr => ?_)
  have hp : PRE L s c' := by
    rcases hr with ⟨n, M1, -, -, -, -, -, k7⟩ | ⟨-, -, rfl⟩
    · exact ⟨k7.skm c3, k7.lev (fun i j z => by unfold wTk at z; omega) hL⟩
    · exact ⟨c3, hL⟩
  refine H r c' hp (fun Q' H' => ?_)
  have hs : SKM c' := by
    rcases hr with ⟨n, M1, -, -, -, -, -, k7⟩ | ⟨-, -, rfl⟩
    · exact k7.skm c3
    · exact c3
  refine sp_tick hs (GMI.ti hT2 hR2 hA2) hG hT2 hR2 hA2 x (fun r' M' hr' => ?_)
  rcases hr with ⟨n, M1, n1, n2, rfl, k1, k2, k3⟩ | ⟨k1, rfl, rfl⟩ <;> rcases hr' with ⟨m, M2, m1, m2, m3, j1, j2⟩ | ⟨j1, rfl, j2⟩
  · rw [nI_eq_iff] at m3
    subst m3
    obtain ⟨rfl, rfl⟩ := Tn_det hT2 hR2 hA2 hG n _ _ _ _ k1 j1
    refine H' _ (INB.sc ⟨nw + n, by omega, INV.tk hT2 hR2 hA2 hC hL k3 k2 (Tn_ek (fun b i q => by simp only [kS, Bool.or_eq_true, Bool.and_eq_true, beq_iff_eq] at q; omega) n _ _ k1) (TI_n (GMI.ti hT2 hR2 hA2) hG n _ _ k1) (Tn_tm hN n _ _ (by omega) k1)⟩ j2)
  · exfalso
    refine j1 ⟨?_, ?_⟩
    · rw [show (1 : Int32) = nI 1 from rfl, nI_le_iff]
      exact n1
    · rw [show (400 : Int32) = nI 400 from rfl, nI_le_iff]
      exact n2
  · exfalso
    rw [m3] at k1
    refine k1 ⟨?_, ?_⟩
    · rw [show (1 : Int32) = nI 1 from rfl, nI_le_iff]
      exact m1
    · rw [show (400 : Int32) = nI 400 from rfl, nI_le_iff]
      exact m2
  · exact H' _ ((h.sc j2).up (by omega))
end ZOPSb
