/-! class and model as they are made (written by gen_z.py) -/
def Z7 (h' : HP) : Prop := mA h' 7 0 = true ∧ mP h' 7 2 0 = some (ob 20 0) ∧ mL h' 20 0 = 12 ∧ (∀ i, mI h' 20 i 0 = 0) ∧ mP h' 7 3 0 = some (ob 21 0) ∧ mL h' 21 0 = 12 ∧ (∀ i, mI h' 21 i 0 = 0) ∧ mP h' 7 4 0 = some (ob 22 0) ∧ mL h' 22 0 = 12 ∧ (∀ i, mI h' 22 i 0 = 0) ∧ mP h' 7 5 0 = some (ob 23 0) ∧ mL h' 23 0 = 12 ∧ (∀ i, mI h' 23 i 0 = 0) ∧ mP h' 7 6 0 = some (ob 24 0) ∧ mL h' 24 0 = 12 ∧ (∀ i, mI h' 24 i 0 = 0) ∧ mP h' 7 7 0 = some (ob 91 0) ∧ mL h' 91 0 = 720 ∧ (∀ i, mJ h' 91 i 0 = 0) ∧ mP h' 7 12 0 = some (ob 25 0) ∧ mL h' 25 0 = 150 ∧ (∀ i, mI h' 25 i 0 = 0) ∧ mP h' 7 13 0 = some (ob 26 0) ∧ mL h' 26 0 = 150 ∧ (∀ i, mI h' 26 i 0 = 0) ∧ mP h' 7 14 0 = some (ob 27 0) ∧ mL h' 27 0 = 150 ∧ (∀ i, mI h' 27 i 0 = 0) ∧ mP h' 7 15 0 = some (ob 28 0) ∧ mL h' 28 0 = 150 ∧ (∀ i, mI h' 28 i 0 = 0) ∧ mP h' 7 16 0 = some (ob 29 0) ∧ mL h' 29 0 = 150 ∧ (∀ i, mI h' 29 i 0 = 0) ∧ mP h' 7 17 0 = some (ob 30 0) ∧ mL h' 30 0 = 150 ∧ (∀ i, mI h' 30 i 0 = 0) ∧ mP h' 7 18 0 = some (ob 31 0) ∧ mL h' 31 0 = 150 ∧ (∀ i, mI h' 31 i 0 = 0) ∧ mP h' 7 19 0 = some (ob 92 0) ∧ mL h' 92 0 = 150 ∧ (∀ i, mJ h' 92 i 0 = 0) ∧ mP h' 7 21 0 = some (ob 32 0) ∧ mL h' 32 0 = 8 ∧ (∀ i, mI h' 32 i 0 = 0) ∧ mP h' 7 23 0 = some (ob 33 0) ∧ mL h' 33 0 = 8 ∧ (∀ i, mI h' 33 i 0 = 0) ∧ mP h' 7 24 0 = some (ob 34 0) ∧ mL h' 34 0 = 8 ∧ (∀ i, mI h' 34 i 0 = 0) ∧ mP h' 7 27 0 = some (ob 35 0) ∧ mL h' 35 0 = 3 ∧ (∀ i, mI h' 35 i 0 = 0) ∧ mP h' 7 28 0 = some (ob 36 0) ∧ mL h' 36 0 = 3 ∧ (∀ i, mI h' 36 i 0 = 0) ∧ mP h' 7 29 0 = some (ob 37 0) ∧ mL h' 37 0 = 3 ∧ (∀ i, mI h' 37 i 0 = 0) ∧ mP h' 7 30 0 = some (ob 38 0) ∧ mL h' 38 0 = 24 ∧ (∀ i, mI h' 38 i 0 = 0) ∧ mP h' 7 31 0 = some (ob 39 0) ∧ mL h' 39 0 = 3 ∧ (∀ i, mI h' 39 i 0 = 0) ∧ mP h' 7 32 0 = some (ob 40 0) ∧ mL h' 40 0 = 3 ∧ (∀ i, mI h' 40 i 0 = 0) ∧ mP h' 7 33 0 = some (ob 41 0) ∧ mL h' 41 0 = 3 ∧ (∀ i, mI h' 41 i 0 = 0) ∧ mP h' 7 34 0 = some (ob 42 0) ∧ mL h' 42 0 = 2 ∧ mI h' 42 0 0 = -1 ∧ mI h' 42 1 0 = 40 ∧ mP h' 7 35 0 = some (ob 43 0) ∧ mL h' 43 0 = 2 ∧ mI h' 43 0 0 = -1 ∧ mI h' 43 1 0 = -1 ∧ mP h' 7 36 0 = some (ob 80 0) ∧ mL h' 80 0 = 2 ∧ (∀ i, mI h' 80 i 0 = 0) ∧ mP h' 7 37 0 = some (ob 44 0) ∧ mL h' 44 0 = 2 ∧ (∀ i, mI h' 44 i 0 = 0) ∧ mP h' 7 38 0 = some (ob 45 0) ∧ mL h' 45 0 = 2 ∧ (∀ i, mI h' 45 i 0 = 0) ∧ mP h' 7 39 0 = some (ob 46 0) ∧ mL h' 46 0 = 2 ∧ (∀ i, mI h' 46 i 0 = 0) ∧ mP h' 7 40 0 = some (ob 81 0) ∧ mL h' 81 0 = 2 ∧ (∀ i, mI h' 81 i 0 = 0) ∧ mP h' 7 43 0 = some (ob 47 0) ∧ mL h' 47 0 = 8 ∧ (∀ i, mI h' 47 i 0 = 0) ∧ mP h' 7 44 0 = some (ob 48 0) ∧ mL h' 48 0 = 8 ∧ (∀ i, mI h' 48 i 0 = 0) ∧ mP h' 7 45 0 = some (ob 49 0) ∧ mL h' 49 0 = 8 ∧ (∀ i, mI h' 49 i 0 = 0) ∧ mP h' 7 46 0 = some (ob 50 0) ∧ mL h' 50 0 = 8 ∧ (∀ i, mI h' 50 i 0 = 0) ∧ mI h' 7 11 0 = 1000 ∧ mI h' 7 0 0 = 0 ∧ mI h' 7 1 0 = 0 ∧ mI h' 7 8 0 = 0 ∧ mI h' 7 9 0 = 0 ∧ mI h' 7 10 0 = 0 ∧ mI h' 7 26 0 = 0 ∧ mI h' 7 41 0 = 0 ∧ mI h' 7 42 0 = 0
def Mof (h : HP) : MD := (fun k i => mI h k i 0, fun k i => mJ h k i 0)
theorem pm_self (h : HP) : pm h (Mof h) = h := by
  refine Prod.ext rfl (Prod.ext rfl (Prod.ext ?_ (Prod.ext ?_ rfl)))
  · funext k i j
    show (if isM k = true ∧ j = 0 then mI h k i 0 else h.2.2.1 k i j) = h.2.2.1 k i j
    by_cases z : isM k = true ∧ j = 0
    · rw [if_pos z, z.2]
      rfl
    · rw [if_neg z]
  · funext k i j
    show (if isM k = true ∧ j = 0 then mJ h k i 0 else h.2.2.2.1 k i j) = h.2.2.2.1 k i j
    by_cases z : isM k = true ∧ j = 0
    · rw [if_pos z, z.2]
      rfl
    · rw [if_neg z]
def hE (L : Nat) (xs : Nat → Int32) : HP := (fun k j => k == 127 && j == 0, fun k j => if k = 127 ∧ j = 0 then L else 0, fun k i j => if k = 127 ∧ j = 0 then xs i else 0, fun _ _ _ => 0, fun _ _ _ => none)
def S76 (k : Nat) : Bool := S7 k || k == 90
theorem kFA : ∀ k, SKF_A k = true → S76 k = false := fun k hk => by
  have h : k < 128 := by
    unfold SKF_A at hk
    simp only [Bool.or_eq_true, beq_iff_eq] at hk
    omega
  exact (by decide +kernel : ∀ k, k < 128 → SKF_A k = true → S76 k = false) k h hk
theorem kFL : ∀ k, SKF_L k = true → S76 k = false := fun k hk => by
  have h : k < 128 := by
    unfold SKF_L at hk
    simp only [Bool.or_eq_true, beq_iff_eq] at hk
    omega
  exact (by decide +kernel : ∀ k, k < 128 → SKF_L k = true → S76 k = false) k h hk
theorem kFP : ∀ k, SKF_P k = true → S76 k = false := fun k hk => by
  have h : k < 128 := by
    unfold SKF_P at hk
    simp only [Bool.or_eq_true, beq_iff_eq] at hk
    omega
  exact (by decide +kernel : ∀ k, k < 128 → SKF_P k = true → S76 k = false) k h hk
def S90 (k : Nat) : Bool := k == 90
section ZSTART
variable {L : Nat} {xs : Nat → Int32} {h6 h7 h3 : HP}
set_option maxHeartbeats 4000000 in
theorem inb0 (F6 : FRM S6 (wN (hE L xs) 6 0 0) h6) (q6 : Z6 h6) (F7 : FRM S7 (wN h6 7 0 0) h7) (q7 : Z7 h7) (e3 : h3 = wN h7 90 0 1) : INB L xs h3 (Mof h3) 0 := by
  obtain ⟨xA_6_0, xA_2_0, xA_4_0, xA_0_0, xA_0_1, xP_6_0, xP_6_1, xP_6_2, xP_6_3, xP_6_4, xP_6_5, xP_6_6, xP_2_0, xL_8_0, xP_2_1, xL_9_0, xP_2_2, xL_10_0, xP_2_3, xL_11_0, xP_2_4, xL_12_0, xP_2_5, xL_13_0, xP_2_6, xL_14_0, xP_2_7, xL_15_0, xP_4_0, xL_16_0, xP_4_1, xL_17_0, xP_4_2, xL_18_0, xP_4_3, xL_88_0, xL_96_0, xL_97_0, xL_98_0, xP_96, xP_97, xP_98, xI_0_0, xI_0_0_1, xI_0_1, xI_0_1_1, xI_0_3, xI_0_3_1, xI_0_2, xI_0_2_1, xI_6_7, xI_6_8, xI_6_9, xI_6_10, xI_6_11, xI_6_14, xI_6_15, xI_6_16, xI_6_17, xI_6_12, xI_6_13, xI_4_7, xI_4_4, xI_4_5, xJ_4_6⟩ := q6
  obtain ⟨yA_7_0, yP_7_2, yL_20_0, yI_20, yP_7_3, yL_21_0, yI_21, yP_7_4, yL_22_0, yI_22, yP_7_5, yL_23_0, yI_23, yP_7_6, yL_24_0, yI_24, yP_7_7, yL_91_0, yJ_91, yP_7_12, yL_25_0, yI_25, yP_7_13, yL_26_0, yI_26, yP_7_14, yL_27_0, yI_27, yP_7_15, yL_28_0, yI_28, yP_7_16, yL_29_0, yI_29, yP_7_17, yL_30_0, yI_30, yP_7_18, yL_31_0, yI_31, yP_7_19, yL_92_0, yJ_92, yP_7_21, yL_32_0, yI_32, yP_7_23, yL_33_0, yI_33, yP_7_24, yL_34_0, yI_34, yP_7_27, yL_35_0, yI_35, yP_7_28, yL_36_0, yI_36, yP_7_29, yL_37_0, yI_37, yP_7_30, yL_38_0, yI_38, yP_7_31, yL_39_0, yI_39, yP_7_32, yL_40_0, yI_40, yP_7_33, yL_41_0, yI_41, yP_7_34, yL_42_0, yI_42_0, yI_42_1, yP_7_35, yL_43_0, yI_43_0, yI_43_1, yP_7_36, yL_80_0, yI_80, yP_7_37, yL_44_0, yI_44, yP_7_38, yL_45_0, yI_45, yP_7_39, yL_46_0, yI_46, yP_7_40, yL_81_0, yI_81, yP_7_43, yL_47_0, yI_47, yP_7_44, yL_48_0, yI_48, yP_7_45, yL_49_0, yI_49, yP_7_46, yL_50_0, yI_50, yI_7_11, yI_7_0, yI_7_1, yI_7_8, yI_7_9, yI_7_10, yI_7_26, yI_7_41, yI_7_42⟩ := q7
  have G7 : FRM S90 h7 h3 := by rw [e3]; exact FRM.n rfl (FRM.rf _ _)
  have G6 : FRM S76 h6 h3 := (FRM.n (h1 := h6) (k := 7) (j := 0) (n := 0) rfl (FRM.rf _ _)).tr (FRM.tr (F7.mo (fun k hk => (Bool.or_eq_false_iff.mp hk).1)) (G7.mo (fun k hk => (Bool.or_eq_false_iff.mp hk).2)))
  have A0 : ∀ k j, S76 k = false → S6 k = false → mA h3 k j = ((k == 127 && j == 0) : Bool) := fun k j p q => by
    rw [(G6 k p).1 j, (F6 k q).1 j, mA_wN, if_neg (fun z => by rw [z.1] at q; exact absurd q (by decide))]
    rfl
  have g6 : ∀ i, mI h3 6 i 0 = mI h6 6 i 0 := fun i => (G6 6 rfl).2.2.1 i 0
  have g0 : ∀ i j, mI h3 0 i j = mI h6 0 i j := fun i j => (G6 0 rfl).2.2.1 i j
  have g4 : ∀ i, mI h3 4 i 0 = mI h6 4 i 0 := fun i => (G6 4 rfl).2.2.1 i 0
  have g7 : ∀ k i, S90 k = false → (Mof h3).1 k i = mI h7 k i 0 := fun k i p => (G7 k p).2.2.1 i 0
  have g7J : ∀ k i, S90 k = false → (Mof h3).2 k i = mJ h7 k i 0 := fun k i p => (G7 k p).2.2.2.1 i 0
  have hM : SKM h7 := ⟨yA_7_0, yP_7_2, yL_20_0, yP_7_3, yL_21_0, yP_7_4, yL_22_0, yP_7_5, yL_23_0, yP_7_6, yL_24_0, yP_7_7, yL_91_0, yP_7_12, yL_25_0, yP_7_13, yL_26_0, yP_7_14, yL_27_0, yP_7_15, yL_28_0, yP_7_16, yL_29_0, yP_7_17, yL_30_0, yP_7_18, yL_31_0, yP_7_19, yL_92_0, yP_7_21, yL_32_0, yP_7_23, yL_33_0, yP_7_24, yL_34_0, yP_7_27, yL_35_0, yP_7_28, yL_36_0, yP_7_29, yL_37_0, yP_7_30, yL_38_0, yP_7_31, yL_39_0, yP_7_32, yL_40_0, yP_7_33, yL_41_0, yP_7_34, yL_42_0, yP_7_35, yL_43_0, yP_7_36, yL_80_0, yP_7_37, yL_44_0, yP_7_38, yL_45_0, yP_7_39, yL_46_0, yP_7_40, yL_81_0, yP_7_43, yL_47_0, yP_7_44, yL_48_0, yP_7_45, yL_49_0, yP_7_46, yL_50_0⟩
  have hF : SKF h6 := ⟨xA_6_0, xA_2_0, xA_4_0, xA_0_0, xA_0_1, xP_6_0, xP_6_1, xP_6_2, xP_6_3, xP_6_4, xP_6_5, xP_6_6, xP_2_0, xL_8_0, xP_2_1, xL_9_0, xP_2_2, xL_10_0, xP_2_3, xL_11_0, xP_2_4, xL_12_0, xP_2_5, xL_13_0, xP_2_6, xL_14_0, xP_2_7, xL_15_0, xP_4_0, xL_16_0, xP_4_1, xL_17_0, xP_4_2, xL_18_0, xP_4_3, xL_88_0, xL_96_0, xL_97_0, xL_98_0⟩
  have m43 : ∀ k, k < 2 → (Mof h3).1 43 k = -1 := fun k hk => by
    rw [g7 _ _ rfl]
    have : k = 0 ∨ k = 1 := by omega
    rcases this with rfl | rfl
    · exact yI_43_0
    · exact yI_43_1
  have no : ∀ {P : Prop} {k : Nat}, k < 0 → P := fun h => absurd h (Nat.not_lt_zero _)
  have SK : SKF h3 := SKF.of (fun k e z => (G6 k (kFA k z)).1 e) (fun k e z => (G6 k (kFL k z)).2.1 e) (fun k i e z => (G6 k (kFP k z)).2.2.2.2 i e) hF
  have k9 : ∀ k, ¬ k = 90 → S90 k = false := fun k hk => by
    unfold S90
    simpa using hk
  have SM : SKM h3 := SKM.of (fun k e z => (G7 k (k9 k (fun q => by rw [q] at z; exact absurd z (by decide)))).1 e) (fun k e z => (G7 k (k9 k (fun q => by rw [q] at z; exact absurd z (by decide)))).2.1 e) (fun k i e z => (G7 k (k9 k (fun q => by rw [q] at z; exact absurd z (by decide)))).2.2.2.2 i e) hM
  have SD : SKD h3 0 0 0 := ⟨fun i _ => by rw [if_neg (Nat.not_lt_zero _), (G6 96 rfl).2.2.2.2 i 0]; exact xP_96 i, fun i _ => by rw [if_neg (Nat.not_lt_zero _), (G6 97 rfl).2.2.2.2 i 0]; exact xP_97 i, fun i _ => by rw [if_neg (Nat.not_lt_zero _), (G6 98 rfl).2.2.2.2 i 0]; exact xP_98 i, fun t ht => no ht, fun t ht => no ht, fun t ht => no ht⟩
  have hAr : CAr h3 (Mof h3) := by
    refine ⟨by rw [g0]; exact xI_0_0, by rw [g0]; exact xI_0_0_1, fun j hj => ⟨?_, ?_, fun z => absurd (m43 j hj) z⟩⟩
    · have : j = 0 ∨ j = 1 := by omega
      rw [g0, g7 _ _ rfl]
      rcases this with rfl | rfl
      · rw [xI_0_1, yI_42_0]
      · rw [xI_0_1_1, yI_42_1]
    · have : j = 0 ∨ j = 1 := by omega
      rw [g0, m43 j hj]
      rcases this with rfl | rfl
      · exact xI_0_3
      · exact xI_0_3_1
  have hCH : CHO h3 (Mof h3) 0 0 0 := ⟨fun k hk => no hk, fun k hk => no hk, ⟨by rw [g6, xI_6_14]; rfl, by rw [g6, xI_6_15]; rfl, fun k hk => no hk⟩, fun k hk => no hk, hAr, by rw [g6, g7 _ _ rfl, xI_6_10, yI_7_9], by rw [g6, g7 _ _ rfl, xI_6_11, yI_7_10], by rw [g6, g7 _ _ rfl, xI_6_12, yI_7_11]⟩
  have hCP : CPT h3 (Mof h3) 0 0 0 := ⟨hCH, fun k hk => no hk, Or.inl (by rw [g6]; exact xI_6_13), ⟨by rw [g6, xI_6_16]; rfl, by rw [g6, xI_6_17]; rfl⟩, by
    unfold GNC
    rw [g0, g0, g7 _ _ rfl, xI_0_2, xI_0_2_1, yI_7_41]
    decide⟩
  have hSH : SHC h3 (Mof h3) := ⟨0, fun _ => 0, fun _ => 0, ⟨Nat.zero_le _, by rw [g4, xI_4_4]; rfl, by rw [g4, xI_4_5]; rfl, fun k hk => no hk⟩, ⟨Nat.zero_le _, by rw [g7 _ _ rfl, yI_7_42]; rfl, fun k hk => no hk⟩, Or.inl ⟨by rw [g4]; exact xI_4_7, by rw [(G6 4 rfl).2.2.2.1, xJ_4_6]; rfl, fun k hk => no hk⟩⟩
  have hFR : FRS h3 0 0 0 := ⟨fun t _ => ⟨by rw [A0 5 t rfl rfl]; rfl, by rw [A0 89 t rfl rfl]; rfl⟩, fun t _ => ⟨by rw [A0 3 t rfl rfl]; rfl, by rw [A0 19 t rfl rfl]; rfl⟩, fun t _ => by rw [A0 1 t rfl rfl]; rfl⟩
  have hG : GMI (Mof h3) 0 0 0 := by
    refine ⟨⟨by rw [g7 _ _ rfl, yI_7_26]; rfl, by rw [g7 _ _ rfl, yI_7_8]; rfl, by rw [g7 _ _ rfl, yI_7_1]; rfl, fun k hk => no hk, fun k hk => no hk, by rw [g7 _ _ rfl, yI_7_10]; decide, fun k hk => no hk⟩, fun k hk => no hk, fun k hk => no hk, fun k hk => no hk, fun k hk => no hk, fun k hk z => absurd (m43 k hk) z, ⟨fun i j hi => no hi, fun _ => m43 0 (by omega), fun i t hi => no hi⟩, fun k hk => no hk, fun k hk => no hk, fun z => absurd (m43 0 (by omega)) z, ⟨fun t _ => ⟨by rw [g7 _ _ rfl]; exact yI_23 t, by rw [g7 _ _ rfl]; exact yI_24 t⟩, fun i _ => by rw [g7J _ _ rfl]; exact yJ_91 i, fun i _ => by rw [g7J _ _ rfl]; exact yJ_92 i, fun k _ => ⟨by rw [g7 _ _ rfl]; exact yI_39 k, by rw [g7 _ _ rfl]; exact yI_40 k⟩⟩⟩
  have hN : TMI (Mof h3) 0 0 := ⟨by rw [g7 _ _ rfl, yI_7_9]; rfl, by omega, fun k hk => no hk, fun j k _ hk => no hk⟩
  have hV : LEV L xs h3 := by
    refine ⟨by rw [e3, mA_wN, if_pos ⟨rfl, rfl⟩], by rw [e3, mL_wN, if_pos ⟨rfl, rfl⟩], by rw [A0 127 0 rfl rfl]; rfl, ?_, fun i => ?_⟩
    · rw [(G6 127 rfl).2.1 0, (F6 127 rfl).2.1 0, mL_wN, if_neg (by decide)]
      show (if (127 : Nat) = 127 ∧ (0 : Nat) = 0 then L else 0) = L
      exact if_pos ⟨rfl, rfl⟩
    · rw [(G6 127 rfl).2.2.1 i 0, (F6 127 rfl).2.2.1 i 0, mI_wN, if_neg (by decide)]
      show (if (127 : Nat) = 127 ∧ (0 : Nat) = 0 then xs i else 0) = xs i
      exact if_pos ⟨rfl, rfl⟩
  exact ⟨0, Nat.le_refl _, 0, 0, 0, by omega, by omega, by omega, ⟨SK, SD, SM, hCP, ⟨by rw [g6, xI_6_7]; rfl, by rw [g6, xI_6_8]; rfl, by rw [g6, xI_6_9]; rfl⟩, hSH, hFR⟩, hG, hN, hV⟩
end ZSTART
