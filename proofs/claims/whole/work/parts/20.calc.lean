/-! calculating: kinds, fields, the model's part beside the class's -/
theorem kd_0 (j : Nat) : kd (ob 0 j) = 0 := kd_ob j (by decide)
theorem ix_0 (j : Nat) : ix (ob 0 j) = j := ix_ob j (by decide)
theorem kd_1 (j : Nat) : kd (ob 1 j) = 1 := kd_ob j (by decide)
theorem ix_1 (j : Nat) : ix (ob 1 j) = j := ix_ob j (by decide)
theorem kd_2 (j : Nat) : kd (ob 2 j) = 2 := kd_ob j (by decide)
theorem ix_2 (j : Nat) : ix (ob 2 j) = j := ix_ob j (by decide)
theorem kd_3 (j : Nat) : kd (ob 3 j) = 3 := kd_ob j (by decide)
theorem ix_3 (j : Nat) : ix (ob 3 j) = j := ix_ob j (by decide)
theorem kd_4 (j : Nat) : kd (ob 4 j) = 4 := kd_ob j (by decide)
theorem ix_4 (j : Nat) : ix (ob 4 j) = j := ix_ob j (by decide)
theorem kd_5 (j : Nat) : kd (ob 5 j) = 5 := kd_ob j (by decide)
theorem ix_5 (j : Nat) : ix (ob 5 j) = j := ix_ob j (by decide)
theorem kd_6 (j : Nat) : kd (ob 6 j) = 6 := kd_ob j (by decide)
theorem ix_6 (j : Nat) : ix (ob 6 j) = j := ix_ob j (by decide)
theorem kd_7 (j : Nat) : kd (ob 7 j) = 7 := kd_ob j (by decide)
theorem ix_7 (j : Nat) : ix (ob 7 j) = j := ix_ob j (by decide)
theorem kd_8 (j : Nat) : kd (ob 8 j) = 8 := kd_ob j (by decide)
theorem ix_8 (j : Nat) : ix (ob 8 j) = j := ix_ob j (by decide)
theorem kd_9 (j : Nat) : kd (ob 9 j) = 9 := kd_ob j (by decide)
theorem ix_9 (j : Nat) : ix (ob 9 j) = j := ix_ob j (by decide)
theorem kd_10 (j : Nat) : kd (ob 10 j) = 10 := kd_ob j (by decide)
theorem ix_10 (j : Nat) : ix (ob 10 j) = j := ix_ob j (by decide)
theorem kd_11 (j : Nat) : kd (ob 11 j) = 11 := kd_ob j (by decide)
theorem ix_11 (j : Nat) : ix (ob 11 j) = j := ix_ob j (by decide)
theorem kd_12 (j : Nat) : kd (ob 12 j) = 12 := kd_ob j (by decide)
theorem ix_12 (j : Nat) : ix (ob 12 j) = j := ix_ob j (by decide)
theorem kd_13 (j : Nat) : kd (ob 13 j) = 13 := kd_ob j (by decide)
theorem ix_13 (j : Nat) : ix (ob 13 j) = j := ix_ob j (by decide)
theorem kd_14 (j : Nat) : kd (ob 14 j) = 14 := kd_ob j (by decide)
theorem ix_14 (j : Nat) : ix (ob 14 j) = j := ix_ob j (by decide)
theorem kd_15 (j : Nat) : kd (ob 15 j) = 15 := kd_ob j (by decide)
theorem ix_15 (j : Nat) : ix (ob 15 j) = j := ix_ob j (by decide)
theorem kd_16 (j : Nat) : kd (ob 16 j) = 16 := kd_ob j (by decide)
theorem ix_16 (j : Nat) : ix (ob 16 j) = j := ix_ob j (by decide)
theorem kd_17 (j : Nat) : kd (ob 17 j) = 17 := kd_ob j (by decide)
theorem ix_17 (j : Nat) : ix (ob 17 j) = j := ix_ob j (by decide)
theorem kd_18 (j : Nat) : kd (ob 18 j) = 18 := kd_ob j (by decide)
theorem ix_18 (j : Nat) : ix (ob 18 j) = j := ix_ob j (by decide)
theorem kd_19 (j : Nat) : kd (ob 19 j) = 19 := kd_ob j (by decide)
theorem ix_19 (j : Nat) : ix (ob 19 j) = j := ix_ob j (by decide)
theorem kd_20 (j : Nat) : kd (ob 20 j) = 20 := kd_ob j (by decide)
theorem ix_20 (j : Nat) : ix (ob 20 j) = j := ix_ob j (by decide)
theorem kd_21 (j : Nat) : kd (ob 21 j) = 21 := kd_ob j (by decide)
theorem ix_21 (j : Nat) : ix (ob 21 j) = j := ix_ob j (by decide)
theorem kd_22 (j : Nat) : kd (ob 22 j) = 22 := kd_ob j (by decide)
theorem ix_22 (j : Nat) : ix (ob 22 j) = j := ix_ob j (by decide)
theorem kd_23 (j : Nat) : kd (ob 23 j) = 23 := kd_ob j (by decide)
theorem ix_23 (j : Nat) : ix (ob 23 j) = j := ix_ob j (by decide)
theorem kd_24 (j : Nat) : kd (ob 24 j) = 24 := kd_ob j (by decide)
theorem ix_24 (j : Nat) : ix (ob 24 j) = j := ix_ob j (by decide)
theorem kd_25 (j : Nat) : kd (ob 25 j) = 25 := kd_ob j (by decide)
theorem ix_25 (j : Nat) : ix (ob 25 j) = j := ix_ob j (by decide)
theorem kd_26 (j : Nat) : kd (ob 26 j) = 26 := kd_ob j (by decide)
theorem ix_26 (j : Nat) : ix (ob 26 j) = j := ix_ob j (by decide)
theorem kd_27 (j : Nat) : kd (ob 27 j) = 27 := kd_ob j (by decide)
theorem ix_27 (j : Nat) : ix (ob 27 j) = j := ix_ob j (by decide)
theorem kd_28 (j : Nat) : kd (ob 28 j) = 28 := kd_ob j (by decide)
theorem ix_28 (j : Nat) : ix (ob 28 j) = j := ix_ob j (by decide)
theorem kd_29 (j : Nat) : kd (ob 29 j) = 29 := kd_ob j (by decide)
theorem ix_29 (j : Nat) : ix (ob 29 j) = j := ix_ob j (by decide)
theorem kd_30 (j : Nat) : kd (ob 30 j) = 30 := kd_ob j (by decide)
theorem ix_30 (j : Nat) : ix (ob 30 j) = j := ix_ob j (by decide)
theorem kd_31 (j : Nat) : kd (ob 31 j) = 31 := kd_ob j (by decide)
theorem ix_31 (j : Nat) : ix (ob 31 j) = j := ix_ob j (by decide)
theorem kd_32 (j : Nat) : kd (ob 32 j) = 32 := kd_ob j (by decide)
theorem ix_32 (j : Nat) : ix (ob 32 j) = j := ix_ob j (by decide)
theorem kd_33 (j : Nat) : kd (ob 33 j) = 33 := kd_ob j (by decide)
theorem ix_33 (j : Nat) : ix (ob 33 j) = j := ix_ob j (by decide)
theorem kd_34 (j : Nat) : kd (ob 34 j) = 34 := kd_ob j (by decide)
theorem ix_34 (j : Nat) : ix (ob 34 j) = j := ix_ob j (by decide)
theorem kd_35 (j : Nat) : kd (ob 35 j) = 35 := kd_ob j (by decide)
theorem ix_35 (j : Nat) : ix (ob 35 j) = j := ix_ob j (by decide)
theorem kd_36 (j : Nat) : kd (ob 36 j) = 36 := kd_ob j (by decide)
theorem ix_36 (j : Nat) : ix (ob 36 j) = j := ix_ob j (by decide)
theorem kd_37 (j : Nat) : kd (ob 37 j) = 37 := kd_ob j (by decide)
theorem ix_37 (j : Nat) : ix (ob 37 j) = j := ix_ob j (by decide)
theorem kd_38 (j : Nat) : kd (ob 38 j) = 38 := kd_ob j (by decide)
theorem ix_38 (j : Nat) : ix (ob 38 j) = j := ix_ob j (by decide)
theorem kd_39 (j : Nat) : kd (ob 39 j) = 39 := kd_ob j (by decide)
theorem ix_39 (j : Nat) : ix (ob 39 j) = j := ix_ob j (by decide)
theorem kd_40 (j : Nat) : kd (ob 40 j) = 40 := kd_ob j (by decide)
theorem ix_40 (j : Nat) : ix (ob 40 j) = j := ix_ob j (by decide)
theorem kd_41 (j : Nat) : kd (ob 41 j) = 41 := kd_ob j (by decide)
theorem ix_41 (j : Nat) : ix (ob 41 j) = j := ix_ob j (by decide)
theorem kd_42 (j : Nat) : kd (ob 42 j) = 42 := kd_ob j (by decide)
theorem ix_42 (j : Nat) : ix (ob 42 j) = j := ix_ob j (by decide)
theorem kd_43 (j : Nat) : kd (ob 43 j) = 43 := kd_ob j (by decide)
theorem ix_43 (j : Nat) : ix (ob 43 j) = j := ix_ob j (by decide)
theorem kd_44 (j : Nat) : kd (ob 44 j) = 44 := kd_ob j (by decide)
theorem ix_44 (j : Nat) : ix (ob 44 j) = j := ix_ob j (by decide)
theorem kd_45 (j : Nat) : kd (ob 45 j) = 45 := kd_ob j (by decide)
theorem ix_45 (j : Nat) : ix (ob 45 j) = j := ix_ob j (by decide)
theorem kd_46 (j : Nat) : kd (ob 46 j) = 46 := kd_ob j (by decide)
theorem ix_46 (j : Nat) : ix (ob 46 j) = j := ix_ob j (by decide)
theorem kd_47 (j : Nat) : kd (ob 47 j) = 47 := kd_ob j (by decide)
theorem ix_47 (j : Nat) : ix (ob 47 j) = j := ix_ob j (by decide)
theorem kd_48 (j : Nat) : kd (ob 48 j) = 48 := kd_ob j (by decide)
theorem ix_48 (j : Nat) : ix (ob 48 j) = j := ix_ob j (by decide)
theorem kd_49 (j : Nat) : kd (ob 49 j) = 49 := kd_ob j (by decide)
theorem ix_49 (j : Nat) : ix (ob 49 j) = j := ix_ob j (by decide)
theorem kd_50 (j : Nat) : kd (ob 50 j) = 50 := kd_ob j (by decide)
theorem ix_50 (j : Nat) : ix (ob 50 j) = j := ix_ob j (by decide)
theorem kd_80 (j : Nat) : kd (ob 80 j) = 80 := kd_ob j (by decide)
theorem ix_80 (j : Nat) : ix (ob 80 j) = j := ix_ob j (by decide)
theorem kd_81 (j : Nat) : kd (ob 81 j) = 81 := kd_ob j (by decide)
theorem ix_81 (j : Nat) : ix (ob 81 j) = j := ix_ob j (by decide)
theorem kd_88 (j : Nat) : kd (ob 88 j) = 88 := kd_ob j (by decide)
theorem ix_88 (j : Nat) : ix (ob 88 j) = j := ix_ob j (by decide)
theorem kd_89 (j : Nat) : kd (ob 89 j) = 89 := kd_ob j (by decide)
theorem ix_89 (j : Nat) : ix (ob 89 j) = j := ix_ob j (by decide)
theorem kd_90 (j : Nat) : kd (ob 90 j) = 90 := kd_ob j (by decide)
theorem ix_90 (j : Nat) : ix (ob 90 j) = j := ix_ob j (by decide)
theorem kd_91 (j : Nat) : kd (ob 91 j) = 91 := kd_ob j (by decide)
theorem ix_91 (j : Nat) : ix (ob 91 j) = j := ix_ob j (by decide)
theorem kd_92 (j : Nat) : kd (ob 92 j) = 92 := kd_ob j (by decide)
theorem ix_92 (j : Nat) : ix (ob 92 j) = j := ix_ob j (by decide)
theorem kd_96 (j : Nat) : kd (ob 96 j) = 96 := kd_ob j (by decide)
theorem ix_96 (j : Nat) : ix (ob 96 j) = j := ix_ob j (by decide)
theorem kd_97 (j : Nat) : kd (ob 97 j) = 97 := kd_ob j (by decide)
theorem ix_97 (j : Nat) : ix (ob 97 j) = j := ix_ob j (by decide)
theorem kd_98 (j : Nat) : kd (ob 98 j) = 98 := kd_ob j (by decide)
theorem ix_98 (j : Nat) : ix (ob 98 j) = j := ix_ob j (by decide)
theorem kd_127 (j : Nat) : kd (ob 127 j) = 127 := kd_ob j (by decide)
theorem ix_127 (j : Nat) : ix (ob 127 j) = j := ix_ob j (by decide)
theorem al_0 (h : HP) (j : Nat) : AL h 0 (ob 0 j) = (mA h 0 j = true) := by unfold AL; rw [kd_0, ix_0]; simp
theorem mV_0_0 (h : HP) (j : Nat) : mV h 0 0 j = .int (mI h 0 0 j) := rfl
theorem mV_0_1 (h : HP) (j : Nat) : mV h 0 1 j = .int (mI h 0 1 j) := rfl
theorem mV_0_2 (h : HP) (j : Nat) : mV h 0 2 j = .int (mI h 0 2 j) := rfl
theorem mV_0_3 (h : HP) (j : Nat) : mV h 0 3 j = .int (mI h 0 3 j) := rfl
theorem mV_0_4 (h : HP) (j : Nat) : mV h 0 4 j = .int (mI h 0 4 j) := rfl
theorem mV_0_5 (h : HP) (j : Nat) : mV h 0 5 j = .int (mI h 0 5 j) := rfl
theorem mV_0_6 (h : HP) (j : Nat) : mV h 0 6 j = .int (mI h 0 6 j) := rfl
theorem mV_0_7 (h : HP) (j : Nat) : mV h 0 7 j = .int (mI h 0 7 j) := rfl
theorem mV_0_8 (h : HP) (j : Nat) : mV h 0 8 j = .int (mI h 0 8 j) := rfl
theorem al_1 (h : HP) (j : Nat) : AL h 1 (ob 1 j) = (mA h 1 j = true) := by unfold AL; rw [kd_1, ix_1]; simp
theorem mV_1_0 (h : HP) (j : Nat) : mV h 1 0 j = .int (mI h 1 0 j) := rfl
theorem mV_1_1 (h : HP) (j : Nat) : mV h 1 1 j = .int (mI h 1 1 j) := rfl
theorem mV_1_2 (h : HP) (j : Nat) : mV h 1 2 j = .int (mI h 1 2 j) := rfl
theorem mV_1_3 (h : HP) (j : Nat) : mV h 1 3 j = .int (mI h 1 3 j) := rfl
theorem mV_1_4 (h : HP) (j : Nat) : mV h 1 4 j = .int (mI h 1 4 j) := rfl
theorem mV_1_5 (h : HP) (j : Nat) : mV h 1 5 j = .int (mI h 1 5 j) := rfl
theorem mV_1_6 (h : HP) (j : Nat) : mV h 1 6 j = .int (mI h 1 6 j) := rfl
theorem mV_1_7 (h : HP) (j : Nat) : mV h 1 7 j = .int (mI h 1 7 j) := rfl
theorem mV_1_8 (h : HP) (j : Nat) : mV h 1 8 j = .int (mI h 1 8 j) := rfl
theorem mV_1_9 (h : HP) (j : Nat) : mV h 1 9 j = .long (mJ h 1 9 j) := rfl
theorem al_2 (h : HP) (j : Nat) : AL h 2 (ob 2 j) = (mA h 2 j = true) := by unfold AL; rw [kd_2, ix_2]; simp
theorem mV_2_0 (h : HP) (j : Nat) : mV h 2 0 j = va_rf (mP h 2 0 j) := rfl
theorem mV_2_1 (h : HP) (j : Nat) : mV h 2 1 j = va_rf (mP h 2 1 j) := rfl
theorem mV_2_2 (h : HP) (j : Nat) : mV h 2 2 j = va_rf (mP h 2 2 j) := rfl
theorem mV_2_3 (h : HP) (j : Nat) : mV h 2 3 j = va_rf (mP h 2 3 j) := rfl
theorem mV_2_4 (h : HP) (j : Nat) : mV h 2 4 j = va_rf (mP h 2 4 j) := rfl
theorem mV_2_5 (h : HP) (j : Nat) : mV h 2 5 j = va_rf (mP h 2 5 j) := rfl
theorem mV_2_6 (h : HP) (j : Nat) : mV h 2 6 j = va_rf (mP h 2 6 j) := rfl
theorem mV_2_7 (h : HP) (j : Nat) : mV h 2 7 j = va_rf (mP h 2 7 j) := rfl
theorem mV_2_8 (h : HP) (j : Nat) : mV h 2 8 j = .int (mI h 2 8 j) := rfl
theorem mV_2_9 (h : HP) (j : Nat) : mV h 2 9 j = .int (mI h 2 9 j) := rfl
theorem mV_2_10 (h : HP) (j : Nat) : mV h 2 10 j = .int (mI h 2 10 j) := rfl
theorem mV_2_11 (h : HP) (j : Nat) : mV h 2 11 j = .int (mI h 2 11 j) := rfl
theorem mV_2_12 (h : HP) (j : Nat) : mV h 2 12 j = .int (mI h 2 12 j) := rfl
theorem mV_2_13 (h : HP) (j : Nat) : mV h 2 13 j = .int (mI h 2 13 j) := rfl
theorem al_3 (h : HP) (j : Nat) : AL h 3 (ob 3 j) = (mA h 3 j = true) := by unfold AL; rw [kd_3, ix_3]; simp
theorem mV_3_0 (h : HP) (j : Nat) : mV h 3 0 j = .int (mI h 3 0 j) := rfl
theorem mV_3_1 (h : HP) (j : Nat) : mV h 3 1 j = va_rf (mP h 3 1 j) := rfl
theorem mV_3_2 (h : HP) (j : Nat) : mV h 3 2 j = .int (mI h 3 2 j) := rfl
theorem mV_3_3 (h : HP) (j : Nat) : mV h 3 3 j = .int (mI h 3 3 j) := rfl
theorem mV_3_4 (h : HP) (j : Nat) : mV h 3 4 j = .int (mI h 3 4 j) := rfl
theorem mV_3_5 (h : HP) (j : Nat) : mV h 3 5 j = .int (mI h 3 5 j) := rfl
theorem mV_3_6 (h : HP) (j : Nat) : mV h 3 6 j = .int (mI h 3 6 j) := rfl
theorem mV_3_7 (h : HP) (j : Nat) : mV h 3 7 j = .int (mI h 3 7 j) := rfl
theorem al_4 (h : HP) (j : Nat) : AL h 4 (ob 4 j) = (mA h 4 j = true) := by unfold AL; rw [kd_4, ix_4]; simp
theorem mV_4_0 (h : HP) (j : Nat) : mV h 4 0 j = va_rf (mP h 4 0 j) := rfl
theorem mV_4_1 (h : HP) (j : Nat) : mV h 4 1 j = va_rf (mP h 4 1 j) := rfl
theorem mV_4_2 (h : HP) (j : Nat) : mV h 4 2 j = va_rf (mP h 4 2 j) := rfl
theorem mV_4_3 (h : HP) (j : Nat) : mV h 4 3 j = va_rf (mP h 4 3 j) := rfl
theorem mV_4_4 (h : HP) (j : Nat) : mV h 4 4 j = .int (mI h 4 4 j) := rfl
theorem mV_4_5 (h : HP) (j : Nat) : mV h 4 5 j = .int (mI h 4 5 j) := rfl
theorem mV_4_6 (h : HP) (j : Nat) : mV h 4 6 j = .long (mJ h 4 6 j) := rfl
theorem mV_4_7 (h : HP) (j : Nat) : mV h 4 7 j = .int (mI h 4 7 j) := rfl
theorem al_5 (h : HP) (j : Nat) : AL h 5 (ob 5 j) = (mA h 5 j = true) := by unfold AL; rw [kd_5, ix_5]; simp
theorem mV_5_0 (h : HP) (j : Nat) : mV h 5 0 j = .int (mI h 5 0 j) := rfl
theorem mV_5_1 (h : HP) (j : Nat) : mV h 5 1 j = .int (mI h 5 1 j) := rfl
theorem mV_5_2 (h : HP) (j : Nat) : mV h 5 2 j = .int (mI h 5 2 j) := rfl
theorem mV_5_3 (h : HP) (j : Nat) : mV h 5 3 j = va_rf (mP h 5 3 j) := rfl
theorem mV_5_4 (h : HP) (j : Nat) : mV h 5 4 j = .int (mI h 5 4 j) := rfl
theorem mV_5_5 (h : HP) (j : Nat) : mV h 5 5 j = .int (mI h 5 5 j) := rfl
theorem mV_5_6 (h : HP) (j : Nat) : mV h 5 6 j = .int (mI h 5 6 j) := rfl
theorem mV_5_7 (h : HP) (j : Nat) : mV h 5 7 j = .int (mI h 5 7 j) := rfl
theorem mV_5_8 (h : HP) (j : Nat) : mV h 5 8 j = .int (mI h 5 8 j) := rfl
theorem al_6 (h : HP) (j : Nat) : AL h 6 (ob 6 j) = (mA h 6 j = true) := by unfold AL; rw [kd_6, ix_6]; simp
theorem mV_6_0 (h : HP) (j : Nat) : mV h 6 0 j = va_rf (mP h 6 0 j) := rfl
theorem mV_6_1 (h : HP) (j : Nat) : mV h 6 1 j = va_rf (mP h 6 1 j) := rfl
theorem mV_6_2 (h : HP) (j : Nat) : mV h 6 2 j = va_rf (mP h 6 2 j) := rfl
theorem mV_6_3 (h : HP) (j : Nat) : mV h 6 3 j = va_rf (mP h 6 3 j) := rfl
theorem mV_6_4 (h : HP) (j : Nat) : mV h 6 4 j = va_rf (mP h 6 4 j) := rfl
theorem mV_6_5 (h : HP) (j : Nat) : mV h 6 5 j = va_rf (mP h 6 5 j) := rfl
theorem mV_6_6 (h : HP) (j : Nat) : mV h 6 6 j = va_rf (mP h 6 6 j) := rfl
theorem mV_6_7 (h : HP) (j : Nat) : mV h 6 7 j = .int (mI h 6 7 j) := rfl
theorem mV_6_8 (h : HP) (j : Nat) : mV h 6 8 j = .int (mI h 6 8 j) := rfl
theorem mV_6_9 (h : HP) (j : Nat) : mV h 6 9 j = .int (mI h 6 9 j) := rfl
theorem mV_6_10 (h : HP) (j : Nat) : mV h 6 10 j = .int (mI h 6 10 j) := rfl
theorem mV_6_11 (h : HP) (j : Nat) : mV h 6 11 j = .int (mI h 6 11 j) := rfl
theorem mV_6_12 (h : HP) (j : Nat) : mV h 6 12 j = .int (mI h 6 12 j) := rfl
theorem mV_6_13 (h : HP) (j : Nat) : mV h 6 13 j = .int (mI h 6 13 j) := rfl
theorem mV_6_14 (h : HP) (j : Nat) : mV h 6 14 j = .int (mI h 6 14 j) := rfl
theorem mV_6_15 (h : HP) (j : Nat) : mV h 6 15 j = .int (mI h 6 15 j) := rfl
theorem mV_6_16 (h : HP) (j : Nat) : mV h 6 16 j = .int (mI h 6 16 j) := rfl
theorem mV_6_17 (h : HP) (j : Nat) : mV h 6 17 j = .int (mI h 6 17 j) := rfl
theorem al_7 (h : HP) (j : Nat) : AL h 7 (ob 7 j) = (mA h 7 j = true) := by unfold AL; rw [kd_7, ix_7]; simp
theorem mV_7_0 (h : HP) (j : Nat) : mV h 7 0 j = .int (mI h 7 0 j) := rfl
theorem mV_7_1 (h : HP) (j : Nat) : mV h 7 1 j = .int (mI h 7 1 j) := rfl
theorem mV_7_2 (h : HP) (j : Nat) : mV h 7 2 j = va_rf (mP h 7 2 j) := rfl
theorem mV_7_3 (h : HP) (j : Nat) : mV h 7 3 j = va_rf (mP h 7 3 j) := rfl
theorem mV_7_4 (h : HP) (j : Nat) : mV h 7 4 j = va_rf (mP h 7 4 j) := rfl
theorem mV_7_5 (h : HP) (j : Nat) : mV h 7 5 j = va_rf (mP h 7 5 j) := rfl
theorem mV_7_6 (h : HP) (j : Nat) : mV h 7 6 j = va_rf (mP h 7 6 j) := rfl
theorem mV_7_7 (h : HP) (j : Nat) : mV h 7 7 j = va_rf (mP h 7 7 j) := rfl
theorem mV_7_8 (h : HP) (j : Nat) : mV h 7 8 j = .int (mI h 7 8 j) := rfl
theorem mV_7_9 (h : HP) (j : Nat) : mV h 7 9 j = .int (mI h 7 9 j) := rfl
theorem mV_7_10 (h : HP) (j : Nat) : mV h 7 10 j = .int (mI h 7 10 j) := rfl
theorem mV_7_11 (h : HP) (j : Nat) : mV h 7 11 j = .int (mI h 7 11 j) := rfl
theorem mV_7_12 (h : HP) (j : Nat) : mV h 7 12 j = va_rf (mP h 7 12 j) := rfl
theorem mV_7_13 (h : HP) (j : Nat) : mV h 7 13 j = va_rf (mP h 7 13 j) := rfl
theorem mV_7_14 (h : HP) (j : Nat) : mV h 7 14 j = va_rf (mP h 7 14 j) := rfl
theorem mV_7_15 (h : HP) (j : Nat) : mV h 7 15 j = va_rf (mP h 7 15 j) := rfl
theorem mV_7_16 (h : HP) (j : Nat) : mV h 7 16 j = va_rf (mP h 7 16 j) := rfl
theorem mV_7_17 (h : HP) (j : Nat) : mV h 7 17 j = va_rf (mP h 7 17 j) := rfl
theorem mV_7_18 (h : HP) (j : Nat) : mV h 7 18 j = va_rf (mP h 7 18 j) := rfl
theorem mV_7_19 (h : HP) (j : Nat) : mV h 7 19 j = va_rf (mP h 7 19 j) := rfl
theorem mV_7_20 (h : HP) (j : Nat) : mV h 7 20 j = .int (mI h 7 20 j) := rfl
theorem mV_7_21 (h : HP) (j : Nat) : mV h 7 21 j = va_rf (mP h 7 21 j) := rfl
theorem mV_7_22 (h : HP) (j : Nat) : mV h 7 22 j = .int (mI h 7 22 j) := rfl
theorem mV_7_23 (h : HP) (j : Nat) : mV h 7 23 j = va_rf (mP h 7 23 j) := rfl
theorem mV_7_24 (h : HP) (j : Nat) : mV h 7 24 j = va_rf (mP h 7 24 j) := rfl
theorem mV_7_25 (h : HP) (j : Nat) : mV h 7 25 j = .int (mI h 7 25 j) := rfl
theorem mV_7_26 (h : HP) (j : Nat) : mV h 7 26 j = .int (mI h 7 26 j) := rfl
theorem mV_7_27 (h : HP) (j : Nat) : mV h 7 27 j = va_rf (mP h 7 27 j) := rfl
theorem mV_7_28 (h : HP) (j : Nat) : mV h 7 28 j = va_rf (mP h 7 28 j) := rfl
theorem mV_7_29 (h : HP) (j : Nat) : mV h 7 29 j = va_rf (mP h 7 29 j) := rfl
theorem mV_7_30 (h : HP) (j : Nat) : mV h 7 30 j = va_rf (mP h 7 30 j) := rfl
theorem mV_7_31 (h : HP) (j : Nat) : mV h 7 31 j = va_rf (mP h 7 31 j) := rfl
theorem mV_7_32 (h : HP) (j : Nat) : mV h 7 32 j = va_rf (mP h 7 32 j) := rfl
theorem mV_7_33 (h : HP) (j : Nat) : mV h 7 33 j = va_rf (mP h 7 33 j) := rfl
theorem mV_7_34 (h : HP) (j : Nat) : mV h 7 34 j = va_rf (mP h 7 34 j) := rfl
theorem mV_7_35 (h : HP) (j : Nat) : mV h 7 35 j = va_rf (mP h 7 35 j) := rfl
theorem mV_7_36 (h : HP) (j : Nat) : mV h 7 36 j = va_rf (mP h 7 36 j) := rfl
theorem mV_7_37 (h : HP) (j : Nat) : mV h 7 37 j = va_rf (mP h 7 37 j) := rfl
theorem mV_7_38 (h : HP) (j : Nat) : mV h 7 38 j = va_rf (mP h 7 38 j) := rfl
theorem mV_7_39 (h : HP) (j : Nat) : mV h 7 39 j = va_rf (mP h 7 39 j) := rfl
theorem mV_7_40 (h : HP) (j : Nat) : mV h 7 40 j = va_rf (mP h 7 40 j) := rfl
theorem mV_7_41 (h : HP) (j : Nat) : mV h 7 41 j = .int (mI h 7 41 j) := rfl
theorem mV_7_42 (h : HP) (j : Nat) : mV h 7 42 j = .int (mI h 7 42 j) := rfl
theorem mV_7_43 (h : HP) (j : Nat) : mV h 7 43 j = va_rf (mP h 7 43 j) := rfl
theorem mV_7_44 (h : HP) (j : Nat) : mV h 7 44 j = va_rf (mP h 7 44 j) := rfl
theorem mV_7_45 (h : HP) (j : Nat) : mV h 7 45 j = va_rf (mP h 7 45 j) := rfl
theorem mV_7_46 (h : HP) (j : Nat) : mV h 7 46 j = va_rf (mP h 7 46 j) := rfl
theorem mV_7_47 (h : HP) (j : Nat) : mV h 7 47 j = .long (mJ h 7 47 j) := rfl
theorem rf_s (a : Nat) : va_rf (some a) = .ref a := rfl
theorem rf_n : va_rf none = .null := rfl
theorem isR_r (a : Nat) : isR (.ref a) = True := rfl
theorem isR_n : isR .null = True := rfl
theorem nth_0 (a0 : Value) (l : List Value) : nth (a0 :: l) 0 = a0 := rfl
theorem lset_0 (a0 v : Value) (l : List Value) : lset (a0 :: l) 0 v = v :: l := rfl
theorem lsq_0 (a0 a1 v : Value) (l : List Value) : lset2 (a0 :: a1 :: l) 0 v = v :: jk :: l := rfl
theorem nth_1 (a0 a1 : Value) (l : List Value) : nth (a0 :: a1 :: l) 1 = a1 := rfl
theorem lset_1 (a0 a1 v : Value) (l : List Value) : lset (a0 :: a1 :: l) 1 v = unl a0 :: v :: l := rfl
theorem lsq_1 (a0 a1 a2 v : Value) (l : List Value) : lset2 (a0 :: a1 :: a2 :: l) 1 v = unl a0 :: v :: jk :: l := rfl
theorem nth_2 (a0 a1 a2 : Value) (l : List Value) : nth (a0 :: a1 :: a2 :: l) 2 = a2 := rfl
theorem lset_2 (a0 a1 a2 v : Value) (l : List Value) : lset (a0 :: a1 :: a2 :: l) 2 v = a0 :: unl a1 :: v :: l := rfl
theorem lsq_2 (a0 a1 a2 a3 v : Value) (l : List Value) : lset2 (a0 :: a1 :: a2 :: a3 :: l) 2 v = a0 :: unl a1 :: v :: jk :: l := rfl
theorem nth_3 (a0 a1 a2 a3 : Value) (l : List Value) : nth (a0 :: a1 :: a2 :: a3 :: l) 3 = a3 := rfl
theorem lset_3 (a0 a1 a2 a3 v : Value) (l : List Value) : lset (a0 :: a1 :: a2 :: a3 :: l) 3 v = a0 :: a1 :: unl a2 :: v :: l := rfl
theorem lsq_3 (a0 a1 a2 a3 a4 v : Value) (l : List Value) : lset2 (a0 :: a1 :: a2 :: a3 :: a4 :: l) 3 v = a0 :: a1 :: unl a2 :: v :: jk :: l := rfl
theorem nth_4 (a0 a1 a2 a3 a4 : Value) (l : List Value) : nth (a0 :: a1 :: a2 :: a3 :: a4 :: l) 4 = a4 := rfl
theorem lset_4 (a0 a1 a2 a3 a4 v : Value) (l : List Value) : lset (a0 :: a1 :: a2 :: a3 :: a4 :: l) 4 v = a0 :: a1 :: a2 :: unl a3 :: v :: l := rfl
theorem lsq_4 (a0 a1 a2 a3 a4 a5 v : Value) (l : List Value) : lset2 (a0 :: a1 :: a2 :: a3 :: a4 :: a5 :: l) 4 v = a0 :: a1 :: a2 :: unl a3 :: v :: jk :: l := rfl
theorem nth_5 (a0 a1 a2 a3 a4 a5 : Value) (l : List Value) : nth (a0 :: a1 :: a2 :: a3 :: a4 :: a5 :: l) 5 = a5 := rfl
theorem lset_5 (a0 a1 a2 a3 a4 a5 v : Value) (l : List Value) : lset (a0 :: a1 :: a2 :: a3 :: a4 :: a5 :: l) 5 v = a0 :: a1 :: a2 :: a3 :: unl a4 :: v :: l := rfl
theorem lsq_5 (a0 a1 a2 a3 a4 a5 a6 v : Value) (l : List Value) : lset2 (a0 :: a1 :: a2 :: a3 :: a4 :: a5 :: a6 :: l) 5 v = a0 :: a1 :: a2 :: a3 :: unl a4 :: v :: jk :: l := rfl
theorem nth_6 (a0 a1 a2 a3 a4 a5 a6 : Value) (l : List Value) : nth (a0 :: a1 :: a2 :: a3 :: a4 :: a5 :: a6 :: l) 6 = a6 := rfl
theorem lset_6 (a0 a1 a2 a3 a4 a5 a6 v : Value) (l : List Value) : lset (a0 :: a1 :: a2 :: a3 :: a4 :: a5 :: a6 :: l) 6 v = a0 :: a1 :: a2 :: a3 :: a4 :: unl a5 :: v :: l := rfl
theorem lsq_6 (a0 a1 a2 a3 a4 a5 a6 a7 v : Value) (l : List Value) : lset2 (a0 :: a1 :: a2 :: a3 :: a4 :: a5 :: a6 :: a7 :: l) 6 v = a0 :: a1 :: a2 :: a3 :: a4 :: unl a5 :: v :: jk :: l := rfl
theorem nth_7 (a0 a1 a2 a3 a4 a5 a6 a7 : Value) (l : List Value) : nth (a0 :: a1 :: a2 :: a3 :: a4 :: a5 :: a6 :: a7 :: l) 7 = a7 := rfl
theorem lset_7 (a0 a1 a2 a3 a4 a5 a6 a7 v : Value) (l : List Value) : lset (a0 :: a1 :: a2 :: a3 :: a4 :: a5 :: a6 :: a7 :: l) 7 v = a0 :: a1 :: a2 :: a3 :: a4 :: a5 :: unl a6 :: v :: l := rfl
theorem lsq_7 (a0 a1 a2 a3 a4 a5 a6 a7 a8 v : Value) (l : List Value) : lset2 (a0 :: a1 :: a2 :: a3 :: a4 :: a5 :: a6 :: a7 :: a8 :: l) 7 v = a0 :: a1 :: a2 :: a3 :: a4 :: a5 :: unl a6 :: v :: jk :: l := rfl
theorem nth_8 (a0 a1 a2 a3 a4 a5 a6 a7 a8 : Value) (l : List Value) : nth (a0 :: a1 :: a2 :: a3 :: a4 :: a5 :: a6 :: a7 :: a8 :: l) 8 = a8 := rfl
theorem lset_8 (a0 a1 a2 a3 a4 a5 a6 a7 a8 v : Value) (l : List Value) : lset (a0 :: a1 :: a2 :: a3 :: a4 :: a5 :: a6 :: a7 :: a8 :: l) 8 v = a0 :: a1 :: a2 :: a3 :: a4 :: a5 :: a6 :: unl a7 :: v :: l := rfl
theorem lsq_8 (a0 a1 a2 a3 a4 a5 a6 a7 a8 a9 v : Value) (l : List Value) : lset2 (a0 :: a1 :: a2 :: a3 :: a4 :: a5 :: a6 :: a7 :: a8 :: a9 :: l) 8 v = a0 :: a1 :: a2 :: a3 :: a4 :: a5 :: a6 :: unl a7 :: v :: jk :: l := rfl
theorem nth_9 (a0 a1 a2 a3 a4 a5 a6 a7 a8 a9 : Value) (l : List Value) : nth (a0 :: a1 :: a2 :: a3 :: a4 :: a5 :: a6 :: a7 :: a8 :: a9 :: l) 9 = a9 := rfl
theorem lset_9 (a0 a1 a2 a3 a4 a5 a6 a7 a8 a9 v : Value) (l : List Value) : lset (a0 :: a1 :: a2 :: a3 :: a4 :: a5 :: a6 :: a7 :: a8 :: a9 :: l) 9 v = a0 :: a1 :: a2 :: a3 :: a4 :: a5 :: a6 :: a7 :: unl a8 :: v :: l := rfl
theorem lsq_9 (a0 a1 a2 a3 a4 a5 a6 a7 a8 a9 a10 v : Value) (l : List Value) : lset2 (a0 :: a1 :: a2 :: a3 :: a4 :: a5 :: a6 :: a7 :: a8 :: a9 :: a10 :: l) 9 v = a0 :: a1 :: a2 :: a3 :: a4 :: a5 :: a6 :: a7 :: unl a8 :: v :: jk :: l := rfl
theorem nth_10 (a0 a1 a2 a3 a4 a5 a6 a7 a8 a9 a10 : Value) (l : List Value) : nth (a0 :: a1 :: a2 :: a3 :: a4 :: a5 :: a6 :: a7 :: a8 :: a9 :: a10 :: l) 10 = a10 := rfl
theorem lset_10 (a0 a1 a2 a3 a4 a5 a6 a7 a8 a9 a10 v : Value) (l : List Value) : lset (a0 :: a1 :: a2 :: a3 :: a4 :: a5 :: a6 :: a7 :: a8 :: a9 :: a10 :: l) 10 v = a0 :: a1 :: a2 :: a3 :: a4 :: a5 :: a6 :: a7 :: a8 :: unl a9 :: v :: l := rfl
theorem lsq_10 (a0 a1 a2 a3 a4 a5 a6 a7 a8 a9 a10 a11 v : Value) (l : List Value) : lset2 (a0 :: a1 :: a2 :: a3 :: a4 :: a5 :: a6 :: a7 :: a8 :: a9 :: a10 :: a11 :: l) 10 v = a0 :: a1 :: a2 :: a3 :: a4 :: a5 :: a6 :: a7 :: a8 :: unl a9 :: v :: jk :: l := rfl
theorem nth_11 (a0 a1 a2 a3 a4 a5 a6 a7 a8 a9 a10 a11 : Value) (l : List Value) : nth (a0 :: a1 :: a2 :: a3 :: a4 :: a5 :: a6 :: a7 :: a8 :: a9 :: a10 :: a11 :: l) 11 = a11 := rfl
theorem lset_11 (a0 a1 a2 a3 a4 a5 a6 a7 a8 a9 a10 a11 v : Value) (l : List Value) : lset (a0 :: a1 :: a2 :: a3 :: a4 :: a5 :: a6 :: a7 :: a8 :: a9 :: a10 :: a11 :: l) 11 v = a0 :: a1 :: a2 :: a3 :: a4 :: a5 :: a6 :: a7 :: a8 :: a9 :: unl a10 :: v :: l := rfl
theorem lsq_11 (a0 a1 a2 a3 a4 a5 a6 a7 a8 a9 a10 a11 a12 v : Value) (l : List Value) : lset2 (a0 :: a1 :: a2 :: a3 :: a4 :: a5 :: a6 :: a7 :: a8 :: a9 :: a10 :: a11 :: a12 :: l) 11 v = a0 :: a1 :: a2 :: a3 :: a4 :: a5 :: a6 :: a7 :: a8 :: a9 :: unl a10 :: v :: jk :: l := rfl
theorem opS_0 {MC MS mc ms : Nat} {Cl : List Value → HP → (List Value → HP → Prop) → Prop} {K : KT} {ls : List Value} (st : List Value) {h : HP} {n1 n2 : Nat} : o_invS MC MS mc ms Cl 0 K ls (st) h n1 n2 = (cats st ≤ 8 ∧ n1 + mc ≤ MC ∧ n2 + ms ≤ MS ∧ Cl [] h (fun r h' => K ls (r ++ st) h' (n1 + mc) (n2 + ms))) := by simp [o_invS]
theorem opV_0 {MC MS mc ms k : Nat} {Cl : List Value → HP → (List Value → HP → Prop) → Prop} {K : KT} {ls : List Value} (b : Nat) (st : List Value) {h : HP} {n1 n2 : Nat} : o_invV MC MS mc ms k Cl 0 K ls (.ref b :: st) h n1 n2 = (AL h k b ∧ cats st ≤ 8 ∧ n1 + mc ≤ MC ∧ n2 + ms ≤ MS ∧ Cl [.ref b] h (fun r h' => K ls (r ++ st) h' (n1 + mc) (n2 + ms))) := by simp [o_invV]
theorem opI_0 {MC MS mc ms : Nat} {Cl : List Value → HP → (List Value → HP → Prop) → Prop} {K : KT} {ls : List Value} (b : Nat) (st : List Value) {h : HP} {n1 n2 : Nat} : o_invI MC MS mc ms Cl 0 K ls (.ref b :: st) h n1 n2 = (cats st ≤ 8 ∧ n1 + mc ≤ MC ∧ n2 + ms ≤ MS ∧ Cl [.ref b] h (fun r h' => K ls (r ++ st) h' (n1 + mc) (n2 + ms))) := by simp [o_invI]
theorem opS_1 {MC MS mc ms : Nat} {Cl : List Value → HP → (List Value → HP → Prop) → Prop} {K : KT} {ls : List Value} (a0 : Value) (st : List Value) {h : HP} {n1 n2 : Nat} : o_invS MC MS mc ms Cl 1 K ls (a0 :: st) h n1 n2 = (cats st ≤ 8 ∧ n1 + mc ≤ MC ∧ n2 + ms ≤ MS ∧ Cl [a0] h (fun r h' => K ls (r ++ st) h' (n1 + mc) (n2 + ms))) := by simp [o_invS]
theorem opV_1 {MC MS mc ms k : Nat} {Cl : List Value → HP → (List Value → HP → Prop) → Prop} {K : KT} {ls : List Value} (a0 : Value) (b : Nat) (st : List Value) {h : HP} {n1 n2 : Nat} : o_invV MC MS mc ms k Cl 1 K ls (a0 :: .ref b :: st) h n1 n2 = (AL h k b ∧ cats st ≤ 8 ∧ n1 + mc ≤ MC ∧ n2 + ms ≤ MS ∧ Cl [.ref b, a0] h (fun r h' => K ls (r ++ st) h' (n1 + mc) (n2 + ms))) := by simp [o_invV]
theorem opI_1 {MC MS mc ms : Nat} {Cl : List Value → HP → (List Value → HP → Prop) → Prop} {K : KT} {ls : List Value} (a0 : Value) (b : Nat) (st : List Value) {h : HP} {n1 n2 : Nat} : o_invI MC MS mc ms Cl 1 K ls (a0 :: .ref b :: st) h n1 n2 = (cats st ≤ 8 ∧ n1 + mc ≤ MC ∧ n2 + ms ≤ MS ∧ Cl [.ref b, a0] h (fun r h' => K ls (r ++ st) h' (n1 + mc) (n2 + ms))) := by simp [o_invI]
theorem opS_2 {MC MS mc ms : Nat} {Cl : List Value → HP → (List Value → HP → Prop) → Prop} {K : KT} {ls : List Value} (a0 a1 : Value) (st : List Value) {h : HP} {n1 n2 : Nat} : o_invS MC MS mc ms Cl 2 K ls (a1 :: a0 :: st) h n1 n2 = (cats st ≤ 8 ∧ n1 + mc ≤ MC ∧ n2 + ms ≤ MS ∧ Cl [a0, a1] h (fun r h' => K ls (r ++ st) h' (n1 + mc) (n2 + ms))) := by simp [o_invS]
theorem opV_2 {MC MS mc ms k : Nat} {Cl : List Value → HP → (List Value → HP → Prop) → Prop} {K : KT} {ls : List Value} (a0 a1 : Value) (b : Nat) (st : List Value) {h : HP} {n1 n2 : Nat} : o_invV MC MS mc ms k Cl 2 K ls (a1 :: a0 :: .ref b :: st) h n1 n2 = (AL h k b ∧ cats st ≤ 8 ∧ n1 + mc ≤ MC ∧ n2 + ms ≤ MS ∧ Cl [.ref b, a0, a1] h (fun r h' => K ls (r ++ st) h' (n1 + mc) (n2 + ms))) := by simp [o_invV]
theorem opI_2 {MC MS mc ms : Nat} {Cl : List Value → HP → (List Value → HP → Prop) → Prop} {K : KT} {ls : List Value} (a0 a1 : Value) (b : Nat) (st : List Value) {h : HP} {n1 n2 : Nat} : o_invI MC MS mc ms Cl 2 K ls (a1 :: a0 :: .ref b :: st) h n1 n2 = (cats st ≤ 8 ∧ n1 + mc ≤ MC ∧ n2 + ms ≤ MS ∧ Cl [.ref b, a0, a1] h (fun r h' => K ls (r ++ st) h' (n1 + mc) (n2 + ms))) := by simp [o_invI]
theorem opS_3 {MC MS mc ms : Nat} {Cl : List Value → HP → (List Value → HP → Prop) → Prop} {K : KT} {ls : List Value} (a0 a1 a2 : Value) (st : List Value) {h : HP} {n1 n2 : Nat} : o_invS MC MS mc ms Cl 3 K ls (a2 :: a1 :: a0 :: st) h n1 n2 = (cats st ≤ 8 ∧ n1 + mc ≤ MC ∧ n2 + ms ≤ MS ∧ Cl [a0, a1, a2] h (fun r h' => K ls (r ++ st) h' (n1 + mc) (n2 + ms))) := by simp [o_invS]
theorem opV_3 {MC MS mc ms k : Nat} {Cl : List Value → HP → (List Value → HP → Prop) → Prop} {K : KT} {ls : List Value} (a0 a1 a2 : Value) (b : Nat) (st : List Value) {h : HP} {n1 n2 : Nat} : o_invV MC MS mc ms k Cl 3 K ls (a2 :: a1 :: a0 :: .ref b :: st) h n1 n2 = (AL h k b ∧ cats st ≤ 8 ∧ n1 + mc ≤ MC ∧ n2 + ms ≤ MS ∧ Cl [.ref b, a0, a1, a2] h (fun r h' => K ls (r ++ st) h' (n1 + mc) (n2 + ms))) := by simp [o_invV]
theorem opI_3 {MC MS mc ms : Nat} {Cl : List Value → HP → (List Value → HP → Prop) → Prop} {K : KT} {ls : List Value} (a0 a1 a2 : Value) (b : Nat) (st : List Value) {h : HP} {n1 n2 : Nat} : o_invI MC MS mc ms Cl 3 K ls (a2 :: a1 :: a0 :: .ref b :: st) h n1 n2 = (cats st ≤ 8 ∧ n1 + mc ≤ MC ∧ n2 + ms ≤ MS ∧ Cl [.ref b, a0, a1, a2] h (fun r h' => K ls (r ++ st) h' (n1 + mc) (n2 + ms))) := by simp [o_invI]
theorem opS_4 {MC MS mc ms : Nat} {Cl : List Value → HP → (List Value → HP → Prop) → Prop} {K : KT} {ls : List Value} (a0 a1 a2 a3 : Value) (st : List Value) {h : HP} {n1 n2 : Nat} : o_invS MC MS mc ms Cl 4 K ls (a3 :: a2 :: a1 :: a0 :: st) h n1 n2 = (cats st ≤ 8 ∧ n1 + mc ≤ MC ∧ n2 + ms ≤ MS ∧ Cl [a0, a1, a2, a3] h (fun r h' => K ls (r ++ st) h' (n1 + mc) (n2 + ms))) := by simp [o_invS]
theorem opV_4 {MC MS mc ms k : Nat} {Cl : List Value → HP → (List Value → HP → Prop) → Prop} {K : KT} {ls : List Value} (a0 a1 a2 a3 : Value) (b : Nat) (st : List Value) {h : HP} {n1 n2 : Nat} : o_invV MC MS mc ms k Cl 4 K ls (a3 :: a2 :: a1 :: a0 :: .ref b :: st) h n1 n2 = (AL h k b ∧ cats st ≤ 8 ∧ n1 + mc ≤ MC ∧ n2 + ms ≤ MS ∧ Cl [.ref b, a0, a1, a2, a3] h (fun r h' => K ls (r ++ st) h' (n1 + mc) (n2 + ms))) := by simp [o_invV]
theorem opI_4 {MC MS mc ms : Nat} {Cl : List Value → HP → (List Value → HP → Prop) → Prop} {K : KT} {ls : List Value} (a0 a1 a2 a3 : Value) (b : Nat) (st : List Value) {h : HP} {n1 n2 : Nat} : o_invI MC MS mc ms Cl 4 K ls (a3 :: a2 :: a1 :: a0 :: .ref b :: st) h n1 n2 = (cats st ≤ 8 ∧ n1 + mc ≤ MC ∧ n2 + ms ≤ MS ∧ Cl [.ref b, a0, a1, a2, a3] h (fun r h' => K ls (r ++ st) h' (n1 + mc) (n2 + ms))) := by simp [o_invI]
theorem opS_5 {MC MS mc ms : Nat} {Cl : List Value → HP → (List Value → HP → Prop) → Prop} {K : KT} {ls : List Value} (a0 a1 a2 a3 a4 : Value) (st : List Value) {h : HP} {n1 n2 : Nat} : o_invS MC MS mc ms Cl 5 K ls (a4 :: a3 :: a2 :: a1 :: a0 :: st) h n1 n2 = (cats st ≤ 8 ∧ n1 + mc ≤ MC ∧ n2 + ms ≤ MS ∧ Cl [a0, a1, a2, a3, a4] h (fun r h' => K ls (r ++ st) h' (n1 + mc) (n2 + ms))) := by simp [o_invS]
theorem opV_5 {MC MS mc ms k : Nat} {Cl : List Value → HP → (List Value → HP → Prop) → Prop} {K : KT} {ls : List Value} (a0 a1 a2 a3 a4 : Value) (b : Nat) (st : List Value) {h : HP} {n1 n2 : Nat} : o_invV MC MS mc ms k Cl 5 K ls (a4 :: a3 :: a2 :: a1 :: a0 :: .ref b :: st) h n1 n2 = (AL h k b ∧ cats st ≤ 8 ∧ n1 + mc ≤ MC ∧ n2 + ms ≤ MS ∧ Cl [.ref b, a0, a1, a2, a3, a4] h (fun r h' => K ls (r ++ st) h' (n1 + mc) (n2 + ms))) := by simp [o_invV]
theorem opI_5 {MC MS mc ms : Nat} {Cl : List Value → HP → (List Value → HP → Prop) → Prop} {K : KT} {ls : List Value} (a0 a1 a2 a3 a4 : Value) (b : Nat) (st : List Value) {h : HP} {n1 n2 : Nat} : o_invI MC MS mc ms Cl 5 K ls (a4 :: a3 :: a2 :: a1 :: a0 :: .ref b :: st) h n1 n2 = (cats st ≤ 8 ∧ n1 + mc ≤ MC ∧ n2 + ms ≤ MS ∧ Cl [.ref b, a0, a1, a2, a3, a4] h (fun r h' => K ls (r ++ st) h' (n1 + mc) (n2 + ms))) := by simp [o_invI]
theorem opS_6 {MC MS mc ms : Nat} {Cl : List Value → HP → (List Value → HP → Prop) → Prop} {K : KT} {ls : List Value} (a0 a1 a2 a3 a4 a5 : Value) (st : List Value) {h : HP} {n1 n2 : Nat} : o_invS MC MS mc ms Cl 6 K ls (a5 :: a4 :: a3 :: a2 :: a1 :: a0 :: st) h n1 n2 = (cats st ≤ 8 ∧ n1 + mc ≤ MC ∧ n2 + ms ≤ MS ∧ Cl [a0, a1, a2, a3, a4, a5] h (fun r h' => K ls (r ++ st) h' (n1 + mc) (n2 + ms))) := by simp [o_invS]
theorem opV_6 {MC MS mc ms k : Nat} {Cl : List Value → HP → (List Value → HP → Prop) → Prop} {K : KT} {ls : List Value} (a0 a1 a2 a3 a4 a5 : Value) (b : Nat) (st : List Value) {h : HP} {n1 n2 : Nat} : o_invV MC MS mc ms k Cl 6 K ls (a5 :: a4 :: a3 :: a2 :: a1 :: a0 :: .ref b :: st) h n1 n2 = (AL h k b ∧ cats st ≤ 8 ∧ n1 + mc ≤ MC ∧ n2 + ms ≤ MS ∧ Cl [.ref b, a0, a1, a2, a3, a4, a5] h (fun r h' => K ls (r ++ st) h' (n1 + mc) (n2 + ms))) := by simp [o_invV]
theorem opI_6 {MC MS mc ms : Nat} {Cl : List Value → HP → (List Value → HP → Prop) → Prop} {K : KT} {ls : List Value} (a0 a1 a2 a3 a4 a5 : Value) (b : Nat) (st : List Value) {h : HP} {n1 n2 : Nat} : o_invI MC MS mc ms Cl 6 K ls (a5 :: a4 :: a3 :: a2 :: a1 :: a0 :: .ref b :: st) h n1 n2 = (cats st ≤ 8 ∧ n1 + mc ≤ MC ∧ n2 + ms ≤ MS ∧ Cl [.ref b, a0, a1, a2, a3, a4, a5] h (fun r h' => K ls (r ++ st) h' (n1 + mc) (n2 + ms))) := by simp [o_invI]
theorem opS_7 {MC MS mc ms : Nat} {Cl : List Value → HP → (List Value → HP → Prop) → Prop} {K : KT} {ls : List Value} (a0 a1 a2 a3 a4 a5 a6 : Value) (st : List Value) {h : HP} {n1 n2 : Nat} : o_invS MC MS mc ms Cl 7 K ls (a6 :: a5 :: a4 :: a3 :: a2 :: a1 :: a0 :: st) h n1 n2 = (cats st ≤ 8 ∧ n1 + mc ≤ MC ∧ n2 + ms ≤ MS ∧ Cl [a0, a1, a2, a3, a4, a5, a6] h (fun r h' => K ls (r ++ st) h' (n1 + mc) (n2 + ms))) := by simp [o_invS]
theorem opV_7 {MC MS mc ms k : Nat} {Cl : List Value → HP → (List Value → HP → Prop) → Prop} {K : KT} {ls : List Value} (a0 a1 a2 a3 a4 a5 a6 : Value) (b : Nat) (st : List Value) {h : HP} {n1 n2 : Nat} : o_invV MC MS mc ms k Cl 7 K ls (a6 :: a5 :: a4 :: a3 :: a2 :: a1 :: a0 :: .ref b :: st) h n1 n2 = (AL h k b ∧ cats st ≤ 8 ∧ n1 + mc ≤ MC ∧ n2 + ms ≤ MS ∧ Cl [.ref b, a0, a1, a2, a3, a4, a5, a6] h (fun r h' => K ls (r ++ st) h' (n1 + mc) (n2 + ms))) := by simp [o_invV]
theorem opI_7 {MC MS mc ms : Nat} {Cl : List Value → HP → (List Value → HP → Prop) → Prop} {K : KT} {ls : List Value} (a0 a1 a2 a3 a4 a5 a6 : Value) (b : Nat) (st : List Value) {h : HP} {n1 n2 : Nat} : o_invI MC MS mc ms Cl 7 K ls (a6 :: a5 :: a4 :: a3 :: a2 :: a1 :: a0 :: .ref b :: st) h n1 n2 = (cats st ≤ 8 ∧ n1 + mc ≤ MC ∧ n2 + ms ≤ MS ∧ Cl [.ref b, a0, a1, a2, a3, a4, a5, a6] h (fun r h' => K ls (r ++ st) h' (n1 + mc) (n2 + ms))) := by simp [o_invI]
abbrev MD : Type := (Nat → Nat → Int32) × (Nat → Nat → Int64)
def isM (k : Nat) : Bool := k == 7 || (Nat.ble 20 k && Nat.ble k 50) || k == 80 || k == 81 || k == 91 || k == 92
def pm (c : HP) (M : MD) : HP := (c.1, c.2.1, (fun k i j => if isM k = true ∧ j = 0 then M.1 k i else c.2.2.1 k i j), (fun k i j => if isM k = true ∧ j = 0 then M.2 k i else c.2.2.2.1 k i j), c.2.2.2.2)
def uI (M : MD) (k i : Nat) (x : Int32) : MD := ((fun a b => if a = k ∧ b = i then x else M.1 a b), M.2)
def uJ (M : MD) (k i : Nat) (x : Int64) : MD := (M.1, (fun a b => if a = k ∧ b = i then x else M.2 a b))
theorem uI_1 (M : MD) (k i : Nat) (x : Int32) (a b : Nat) : (uI M k i x).1 a b = if a = k ∧ b = i then x else M.1 a b := rfl
theorem uI_2 (M : MD) (k i : Nat) (x : Int32) : (uI M k i x).2 = M.2 := rfl
theorem uJ_1 (M : MD) (k i : Nat) (x : Int64) : (uJ M k i x).1 = M.1 := rfl
theorem uJ_2 (M : MD) (k i : Nat) (x : Int64) (a b : Nat) : (uJ M k i x).2 a b = if a = k ∧ b = i then x else M.2 a b := rfl
theorem mA_pm (c : HP) (M : MD) (a b : Nat) : mA (pm c M) a b = mA c a b := rfl
theorem mL_pm (c : HP) (M : MD) (a b : Nat) : mL (pm c M) a b = mL c a b := rfl
theorem mP_pm (c : HP) (M : MD) (a i b : Nat) : mP (pm c M) a i b = mP c a i b := rfl
theorem rI_pm (c : HP) (M : MD) {k : Nat} (i : Nat) (hk : isM k = true) : mI (pm c M) k i 0 = M.1 k i := by show (if isM k = true ∧ 0 = 0 then _ else _) = _; rw [if_pos ⟨hk, rfl⟩]
theorem rJ_pm (c : HP) (M : MD) {k : Nat} (i : Nat) (hk : isM k = true) : mJ (pm c M) k i 0 = M.2 k i := by show (if isM k = true ∧ 0 = 0 then _ else _) = _; rw [if_pos ⟨hk, rfl⟩]
theorem cI_pm (c : HP) (M : MD) {k : Nat} (i j : Nat) (hk : isM k = false) : mI (pm c M) k i j = mI c k i j := by show (if isM k = true ∧ j = 0 then _ else _) = _; rw [if_neg (fun q => by rw [hk] at q; cases q.1)]; rfl
theorem cJ_pm (c : HP) (M : MD) {k : Nat} (i j : Nat) (hk : isM k = false) : mJ (pm c M) k i j = mJ c k i j := by show (if isM k = true ∧ j = 0 then _ else _) = _; rw [if_neg (fun q => by rw [hk] at q; cases q.1)]; rfl
theorem wI_pm (c : HP) (M : MD) {k : Nat} (i : Nat) (x : Int32) (hk : isM k = true) : wI (pm c M) k i 0 x = pm c (uI M k i x) := by
  unfold wI pm uI; congr 3; funext a b e; by_cases h1 : a = k ∧ b = i ∧ e = 0
  · obtain ⟨rfl, rfl, rfl⟩ := h1; simp [hk]
  · rw [if_neg h1]; dsimp only; by_cases h2 : isM a = true ∧ e = 0
    · rw [if_pos h2, if_pos h2, if_neg (fun q => h1 ⟨q.1, q.2, h2.2⟩)]
    · rw [if_neg h2, if_neg h2]
theorem wJ_pm (c : HP) (M : MD) {k : Nat} (i : Nat) (x : Int64) (hk : isM k = true) : wJ (pm c M) k i 0 x = pm c (uJ M k i x) := by
  unfold wJ pm uJ; congr 4; funext a b e; by_cases h1 : a = k ∧ b = i ∧ e = 0
  · obtain ⟨rfl, rfl, rfl⟩ := h1; simp [hk]
  · rw [if_neg h1]; dsimp only; by_cases h2 : isM a = true ∧ e = 0
    · rw [if_pos h2, if_pos h2, if_neg (fun q => h1 ⟨q.1, q.2, h2.2⟩)]
    · rw [if_neg h2, if_neg h2]
theorem wI_cm (c : HP) (M : MD) {k : Nat} (i j : Nat) (x : Int32) (hk : isM k = false) : wI (pm c M) k i j x = pm (wI c k i j x) M := by
  unfold wI pm; congr 3; funext a b e; by_cases h1 : a = k ∧ b = i ∧ e = j
  · obtain ⟨rfl, rfl, rfl⟩ := h1; simp [hk]
  · rw [if_neg h1]; dsimp only; by_cases h2 : isM a = true ∧ e = 0
    · rw [if_pos h2, if_pos h2]
    · rw [if_neg h2, if_neg h2, if_neg h1]
theorem wJ_cm (c : HP) (M : MD) {k : Nat} (i j : Nat) (x : Int64) (hk : isM k = false) : wJ (pm c M) k i j x = pm (wJ c k i j x) M := by
  unfold wJ pm; congr 4; funext a b e; by_cases h1 : a = k ∧ b = i ∧ e = j
  · obtain ⟨rfl, rfl, rfl⟩ := h1; simp [hk]
  · rw [if_neg h1]; dsimp only; by_cases h2 : isM a = true ∧ e = 0
    · rw [if_pos h2, if_pos h2]
    · rw [if_neg h2, if_neg h2, if_neg h1]
theorem wP_cm (c : HP) (M : MD) (k i j : Nat) (x : Option Nat) : wP (pm c M) k i j x = pm (wP c k i j x) M := rfl
theorem rm_7 (c : HP) (M : MD) (i : Nat) : mI (pm c M) 7 i 0 = M.1 7 i := rI_pm c M i rfl
theorem wm_7 (c : HP) (M : MD) (i : Nat) (x : Int32) : wI (pm c M) 7 i 0 x = pm c (uI M 7 i x) := wI_pm c M i x rfl
theorem rm_20 (c : HP) (M : MD) (i : Nat) : mI (pm c M) 20 i 0 = M.1 20 i := rI_pm c M i rfl
theorem wm_20 (c : HP) (M : MD) (i : Nat) (x : Int32) : wI (pm c M) 20 i 0 x = pm c (uI M 20 i x) := wI_pm c M i x rfl
theorem rm_21 (c : HP) (M : MD) (i : Nat) : mI (pm c M) 21 i 0 = M.1 21 i := rI_pm c M i rfl
theorem wm_21 (c : HP) (M : MD) (i : Nat) (x : Int32) : wI (pm c M) 21 i 0 x = pm c (uI M 21 i x) := wI_pm c M i x rfl
theorem rm_22 (c : HP) (M : MD) (i : Nat) : mI (pm c M) 22 i 0 = M.1 22 i := rI_pm c M i rfl
theorem wm_22 (c : HP) (M : MD) (i : Nat) (x : Int32) : wI (pm c M) 22 i 0 x = pm c (uI M 22 i x) := wI_pm c M i x rfl
theorem rm_23 (c : HP) (M : MD) (i : Nat) : mI (pm c M) 23 i 0 = M.1 23 i := rI_pm c M i rfl
theorem wm_23 (c : HP) (M : MD) (i : Nat) (x : Int32) : wI (pm c M) 23 i 0 x = pm c (uI M 23 i x) := wI_pm c M i x rfl
theorem rm_24 (c : HP) (M : MD) (i : Nat) : mI (pm c M) 24 i 0 = M.1 24 i := rI_pm c M i rfl
theorem wm_24 (c : HP) (M : MD) (i : Nat) (x : Int32) : wI (pm c M) 24 i 0 x = pm c (uI M 24 i x) := wI_pm c M i x rfl
theorem rm_25 (c : HP) (M : MD) (i : Nat) : mI (pm c M) 25 i 0 = M.1 25 i := rI_pm c M i rfl
theorem wm_25 (c : HP) (M : MD) (i : Nat) (x : Int32) : wI (pm c M) 25 i 0 x = pm c (uI M 25 i x) := wI_pm c M i x rfl
theorem rm_26 (c : HP) (M : MD) (i : Nat) : mI (pm c M) 26 i 0 = M.1 26 i := rI_pm c M i rfl
theorem wm_26 (c : HP) (M : MD) (i : Nat) (x : Int32) : wI (pm c M) 26 i 0 x = pm c (uI M 26 i x) := wI_pm c M i x rfl
theorem rm_27 (c : HP) (M : MD) (i : Nat) : mI (pm c M) 27 i 0 = M.1 27 i := rI_pm c M i rfl
theorem wm_27 (c : HP) (M : MD) (i : Nat) (x : Int32) : wI (pm c M) 27 i 0 x = pm c (uI M 27 i x) := wI_pm c M i x rfl
theorem rm_28 (c : HP) (M : MD) (i : Nat) : mI (pm c M) 28 i 0 = M.1 28 i := rI_pm c M i rfl
theorem wm_28 (c : HP) (M : MD) (i : Nat) (x : Int32) : wI (pm c M) 28 i 0 x = pm c (uI M 28 i x) := wI_pm c M i x rfl
theorem rm_29 (c : HP) (M : MD) (i : Nat) : mI (pm c M) 29 i 0 = M.1 29 i := rI_pm c M i rfl
theorem wm_29 (c : HP) (M : MD) (i : Nat) (x : Int32) : wI (pm c M) 29 i 0 x = pm c (uI M 29 i x) := wI_pm c M i x rfl
theorem rm_30 (c : HP) (M : MD) (i : Nat) : mI (pm c M) 30 i 0 = M.1 30 i := rI_pm c M i rfl
theorem wm_30 (c : HP) (M : MD) (i : Nat) (x : Int32) : wI (pm c M) 30 i 0 x = pm c (uI M 30 i x) := wI_pm c M i x rfl
theorem rm_31 (c : HP) (M : MD) (i : Nat) : mI (pm c M) 31 i 0 = M.1 31 i := rI_pm c M i rfl
theorem wm_31 (c : HP) (M : MD) (i : Nat) (x : Int32) : wI (pm c M) 31 i 0 x = pm c (uI M 31 i x) := wI_pm c M i x rfl
theorem rm_32 (c : HP) (M : MD) (i : Nat) : mI (pm c M) 32 i 0 = M.1 32 i := rI_pm c M i rfl
theorem wm_32 (c : HP) (M : MD) (i : Nat) (x : Int32) : wI (pm c M) 32 i 0 x = pm c (uI M 32 i x) := wI_pm c M i x rfl
theorem rm_33 (c : HP) (M : MD) (i : Nat) : mI (pm c M) 33 i 0 = M.1 33 i := rI_pm c M i rfl
theorem wm_33 (c : HP) (M : MD) (i : Nat) (x : Int32) : wI (pm c M) 33 i 0 x = pm c (uI M 33 i x) := wI_pm c M i x rfl
theorem rm_34 (c : HP) (M : MD) (i : Nat) : mI (pm c M) 34 i 0 = M.1 34 i := rI_pm c M i rfl
theorem wm_34 (c : HP) (M : MD) (i : Nat) (x : Int32) : wI (pm c M) 34 i 0 x = pm c (uI M 34 i x) := wI_pm c M i x rfl
theorem rm_35 (c : HP) (M : MD) (i : Nat) : mI (pm c M) 35 i 0 = M.1 35 i := rI_pm c M i rfl
theorem wm_35 (c : HP) (M : MD) (i : Nat) (x : Int32) : wI (pm c M) 35 i 0 x = pm c (uI M 35 i x) := wI_pm c M i x rfl
theorem rm_36 (c : HP) (M : MD) (i : Nat) : mI (pm c M) 36 i 0 = M.1 36 i := rI_pm c M i rfl
theorem wm_36 (c : HP) (M : MD) (i : Nat) (x : Int32) : wI (pm c M) 36 i 0 x = pm c (uI M 36 i x) := wI_pm c M i x rfl
theorem rm_37 (c : HP) (M : MD) (i : Nat) : mI (pm c M) 37 i 0 = M.1 37 i := rI_pm c M i rfl
theorem wm_37 (c : HP) (M : MD) (i : Nat) (x : Int32) : wI (pm c M) 37 i 0 x = pm c (uI M 37 i x) := wI_pm c M i x rfl
theorem rm_38 (c : HP) (M : MD) (i : Nat) : mI (pm c M) 38 i 0 = M.1 38 i := rI_pm c M i rfl
theorem wm_38 (c : HP) (M : MD) (i : Nat) (x : Int32) : wI (pm c M) 38 i 0 x = pm c (uI M 38 i x) := wI_pm c M i x rfl
theorem rm_39 (c : HP) (M : MD) (i : Nat) : mI (pm c M) 39 i 0 = M.1 39 i := rI_pm c M i rfl
theorem wm_39 (c : HP) (M : MD) (i : Nat) (x : Int32) : wI (pm c M) 39 i 0 x = pm c (uI M 39 i x) := wI_pm c M i x rfl
theorem rm_40 (c : HP) (M : MD) (i : Nat) : mI (pm c M) 40 i 0 = M.1 40 i := rI_pm c M i rfl
theorem wm_40 (c : HP) (M : MD) (i : Nat) (x : Int32) : wI (pm c M) 40 i 0 x = pm c (uI M 40 i x) := wI_pm c M i x rfl
theorem rm_41 (c : HP) (M : MD) (i : Nat) : mI (pm c M) 41 i 0 = M.1 41 i := rI_pm c M i rfl
theorem wm_41 (c : HP) (M : MD) (i : Nat) (x : Int32) : wI (pm c M) 41 i 0 x = pm c (uI M 41 i x) := wI_pm c M i x rfl
theorem rm_42 (c : HP) (M : MD) (i : Nat) : mI (pm c M) 42 i 0 = M.1 42 i := rI_pm c M i rfl
theorem wm_42 (c : HP) (M : MD) (i : Nat) (x : Int32) : wI (pm c M) 42 i 0 x = pm c (uI M 42 i x) := wI_pm c M i x rfl
theorem rm_43 (c : HP) (M : MD) (i : Nat) : mI (pm c M) 43 i 0 = M.1 43 i := rI_pm c M i rfl
theorem wm_43 (c : HP) (M : MD) (i : Nat) (x : Int32) : wI (pm c M) 43 i 0 x = pm c (uI M 43 i x) := wI_pm c M i x rfl
theorem rm_44 (c : HP) (M : MD) (i : Nat) : mI (pm c M) 44 i 0 = M.1 44 i := rI_pm c M i rfl
theorem wm_44 (c : HP) (M : MD) (i : Nat) (x : Int32) : wI (pm c M) 44 i 0 x = pm c (uI M 44 i x) := wI_pm c M i x rfl
theorem rm_45 (c : HP) (M : MD) (i : Nat) : mI (pm c M) 45 i 0 = M.1 45 i := rI_pm c M i rfl
theorem wm_45 (c : HP) (M : MD) (i : Nat) (x : Int32) : wI (pm c M) 45 i 0 x = pm c (uI M 45 i x) := wI_pm c M i x rfl
theorem rm_46 (c : HP) (M : MD) (i : Nat) : mI (pm c M) 46 i 0 = M.1 46 i := rI_pm c M i rfl
theorem wm_46 (c : HP) (M : MD) (i : Nat) (x : Int32) : wI (pm c M) 46 i 0 x = pm c (uI M 46 i x) := wI_pm c M i x rfl
theorem rm_47 (c : HP) (M : MD) (i : Nat) : mI (pm c M) 47 i 0 = M.1 47 i := rI_pm c M i rfl
theorem wm_47 (c : HP) (M : MD) (i : Nat) (x : Int32) : wI (pm c M) 47 i 0 x = pm c (uI M 47 i x) := wI_pm c M i x rfl
theorem rm_48 (c : HP) (M : MD) (i : Nat) : mI (pm c M) 48 i 0 = M.1 48 i := rI_pm c M i rfl
theorem wm_48 (c : HP) (M : MD) (i : Nat) (x : Int32) : wI (pm c M) 48 i 0 x = pm c (uI M 48 i x) := wI_pm c M i x rfl
theorem rm_49 (c : HP) (M : MD) (i : Nat) : mI (pm c M) 49 i 0 = M.1 49 i := rI_pm c M i rfl
theorem wm_49 (c : HP) (M : MD) (i : Nat) (x : Int32) : wI (pm c M) 49 i 0 x = pm c (uI M 49 i x) := wI_pm c M i x rfl
theorem rm_50 (c : HP) (M : MD) (i : Nat) : mI (pm c M) 50 i 0 = M.1 50 i := rI_pm c M i rfl
theorem wm_50 (c : HP) (M : MD) (i : Nat) (x : Int32) : wI (pm c M) 50 i 0 x = pm c (uI M 50 i x) := wI_pm c M i x rfl
theorem rm_80 (c : HP) (M : MD) (i : Nat) : mI (pm c M) 80 i 0 = M.1 80 i := rI_pm c M i rfl
theorem wm_80 (c : HP) (M : MD) (i : Nat) (x : Int32) : wI (pm c M) 80 i 0 x = pm c (uI M 80 i x) := wI_pm c M i x rfl
theorem rm_81 (c : HP) (M : MD) (i : Nat) : mI (pm c M) 81 i 0 = M.1 81 i := rI_pm c M i rfl
theorem wm_81 (c : HP) (M : MD) (i : Nat) (x : Int32) : wI (pm c M) 81 i 0 x = pm c (uI M 81 i x) := wI_pm c M i x rfl
theorem rm_91 (c : HP) (M : MD) (i : Nat) : mJ (pm c M) 91 i 0 = M.2 91 i := rJ_pm c M i rfl
theorem wm_91 (c : HP) (M : MD) (i : Nat) (x : Int64) : wJ (pm c M) 91 i 0 x = pm c (uJ M 91 i x) := wJ_pm c M i x rfl
theorem rm_92 (c : HP) (M : MD) (i : Nat) : mJ (pm c M) 92 i 0 = M.2 92 i := rJ_pm c M i rfl
theorem wm_92 (c : HP) (M : MD) (i : Nat) (x : Int64) : wJ (pm c M) 92 i 0 x = pm c (uJ M 92 i x) := wJ_pm c M i x rfl
theorem rmJ_7 (c : HP) (M : MD) (i : Nat) : mJ (pm c M) 7 i 0 = M.2 7 i := rJ_pm c M i rfl
theorem wmJ_7 (c : HP) (M : MD) (i : Nat) (x : Int64) : wJ (pm c M) 7 i 0 x = pm c (uJ M 7 i x) := wJ_pm c M i x rfl
theorem cI_0 (c : HP) (M : MD) (i j : Nat) : mI (pm c M) 0 i j = mI c 0 i j := cI_pm c M i j rfl
theorem cJ_0 (c : HP) (M : MD) (i j : Nat) : mJ (pm c M) 0 i j = mJ c 0 i j := cJ_pm c M i j rfl
theorem cw_0 (c : HP) (M : MD) (i j : Nat) (x : Int32) : wI (pm c M) 0 i j x = pm (wI c 0 i j x) M := wI_cm c M i j x rfl
theorem cv_0 (c : HP) (M : MD) (i j : Nat) (x : Int64) : wJ (pm c M) 0 i j x = pm (wJ c 0 i j x) M := wJ_cm c M i j x rfl
theorem cI_1 (c : HP) (M : MD) (i j : Nat) : mI (pm c M) 1 i j = mI c 1 i j := cI_pm c M i j rfl
theorem cJ_1 (c : HP) (M : MD) (i j : Nat) : mJ (pm c M) 1 i j = mJ c 1 i j := cJ_pm c M i j rfl
theorem cw_1 (c : HP) (M : MD) (i j : Nat) (x : Int32) : wI (pm c M) 1 i j x = pm (wI c 1 i j x) M := wI_cm c M i j x rfl
theorem cv_1 (c : HP) (M : MD) (i j : Nat) (x : Int64) : wJ (pm c M) 1 i j x = pm (wJ c 1 i j x) M := wJ_cm c M i j x rfl
theorem cI_2 (c : HP) (M : MD) (i j : Nat) : mI (pm c M) 2 i j = mI c 2 i j := cI_pm c M i j rfl
theorem cJ_2 (c : HP) (M : MD) (i j : Nat) : mJ (pm c M) 2 i j = mJ c 2 i j := cJ_pm c M i j rfl
theorem cw_2 (c : HP) (M : MD) (i j : Nat) (x : Int32) : wI (pm c M) 2 i j x = pm (wI c 2 i j x) M := wI_cm c M i j x rfl
theorem cv_2 (c : HP) (M : MD) (i j : Nat) (x : Int64) : wJ (pm c M) 2 i j x = pm (wJ c 2 i j x) M := wJ_cm c M i j x rfl
theorem cI_3 (c : HP) (M : MD) (i j : Nat) : mI (pm c M) 3 i j = mI c 3 i j := cI_pm c M i j rfl
theorem cJ_3 (c : HP) (M : MD) (i j : Nat) : mJ (pm c M) 3 i j = mJ c 3 i j := cJ_pm c M i j rfl
theorem cw_3 (c : HP) (M : MD) (i j : Nat) (x : Int32) : wI (pm c M) 3 i j x = pm (wI c 3 i j x) M := wI_cm c M i j x rfl
theorem cv_3 (c : HP) (M : MD) (i j : Nat) (x : Int64) : wJ (pm c M) 3 i j x = pm (wJ c 3 i j x) M := wJ_cm c M i j x rfl
theorem cI_4 (c : HP) (M : MD) (i j : Nat) : mI (pm c M) 4 i j = mI c 4 i j := cI_pm c M i j rfl
theorem cJ_4 (c : HP) (M : MD) (i j : Nat) : mJ (pm c M) 4 i j = mJ c 4 i j := cJ_pm c M i j rfl
theorem cw_4 (c : HP) (M : MD) (i j : Nat) (x : Int32) : wI (pm c M) 4 i j x = pm (wI c 4 i j x) M := wI_cm c M i j x rfl
theorem cv_4 (c : HP) (M : MD) (i j : Nat) (x : Int64) : wJ (pm c M) 4 i j x = pm (wJ c 4 i j x) M := wJ_cm c M i j x rfl
theorem cI_5 (c : HP) (M : MD) (i j : Nat) : mI (pm c M) 5 i j = mI c 5 i j := cI_pm c M i j rfl
theorem cJ_5 (c : HP) (M : MD) (i j : Nat) : mJ (pm c M) 5 i j = mJ c 5 i j := cJ_pm c M i j rfl
theorem cw_5 (c : HP) (M : MD) (i j : Nat) (x : Int32) : wI (pm c M) 5 i j x = pm (wI c 5 i j x) M := wI_cm c M i j x rfl
theorem cv_5 (c : HP) (M : MD) (i j : Nat) (x : Int64) : wJ (pm c M) 5 i j x = pm (wJ c 5 i j x) M := wJ_cm c M i j x rfl
theorem cI_6 (c : HP) (M : MD) (i j : Nat) : mI (pm c M) 6 i j = mI c 6 i j := cI_pm c M i j rfl
theorem cJ_6 (c : HP) (M : MD) (i j : Nat) : mJ (pm c M) 6 i j = mJ c 6 i j := cJ_pm c M i j rfl
theorem cw_6 (c : HP) (M : MD) (i j : Nat) (x : Int32) : wI (pm c M) 6 i j x = pm (wI c 6 i j x) M := wI_cm c M i j x rfl
theorem cv_6 (c : HP) (M : MD) (i j : Nat) (x : Int64) : wJ (pm c M) 6 i j x = pm (wJ c 6 i j x) M := wJ_cm c M i j x rfl
theorem cI_8 (c : HP) (M : MD) (i j : Nat) : mI (pm c M) 8 i j = mI c 8 i j := cI_pm c M i j rfl
theorem cJ_8 (c : HP) (M : MD) (i j : Nat) : mJ (pm c M) 8 i j = mJ c 8 i j := cJ_pm c M i j rfl
theorem cw_8 (c : HP) (M : MD) (i j : Nat) (x : Int32) : wI (pm c M) 8 i j x = pm (wI c 8 i j x) M := wI_cm c M i j x rfl
theorem cv_8 (c : HP) (M : MD) (i j : Nat) (x : Int64) : wJ (pm c M) 8 i j x = pm (wJ c 8 i j x) M := wJ_cm c M i j x rfl
theorem cI_9 (c : HP) (M : MD) (i j : Nat) : mI (pm c M) 9 i j = mI c 9 i j := cI_pm c M i j rfl
theorem cJ_9 (c : HP) (M : MD) (i j : Nat) : mJ (pm c M) 9 i j = mJ c 9 i j := cJ_pm c M i j rfl
theorem cw_9 (c : HP) (M : MD) (i j : Nat) (x : Int32) : wI (pm c M) 9 i j x = pm (wI c 9 i j x) M := wI_cm c M i j x rfl
theorem cv_9 (c : HP) (M : MD) (i j : Nat) (x : Int64) : wJ (pm c M) 9 i j x = pm (wJ c 9 i j x) M := wJ_cm c M i j x rfl
theorem cI_10 (c : HP) (M : MD) (i j : Nat) : mI (pm c M) 10 i j = mI c 10 i j := cI_pm c M i j rfl
theorem cJ_10 (c : HP) (M : MD) (i j : Nat) : mJ (pm c M) 10 i j = mJ c 10 i j := cJ_pm c M i j rfl
theorem cw_10 (c : HP) (M : MD) (i j : Nat) (x : Int32) : wI (pm c M) 10 i j x = pm (wI c 10 i j x) M := wI_cm c M i j x rfl
theorem cv_10 (c : HP) (M : MD) (i j : Nat) (x : Int64) : wJ (pm c M) 10 i j x = pm (wJ c 10 i j x) M := wJ_cm c M i j x rfl
theorem cI_11 (c : HP) (M : MD) (i j : Nat) : mI (pm c M) 11 i j = mI c 11 i j := cI_pm c M i j rfl
theorem cJ_11 (c : HP) (M : MD) (i j : Nat) : mJ (pm c M) 11 i j = mJ c 11 i j := cJ_pm c M i j rfl
theorem cw_11 (c : HP) (M : MD) (i j : Nat) (x : Int32) : wI (pm c M) 11 i j x = pm (wI c 11 i j x) M := wI_cm c M i j x rfl
theorem cv_11 (c : HP) (M : MD) (i j : Nat) (x : Int64) : wJ (pm c M) 11 i j x = pm (wJ c 11 i j x) M := wJ_cm c M i j x rfl
theorem cI_12 (c : HP) (M : MD) (i j : Nat) : mI (pm c M) 12 i j = mI c 12 i j := cI_pm c M i j rfl
theorem cJ_12 (c : HP) (M : MD) (i j : Nat) : mJ (pm c M) 12 i j = mJ c 12 i j := cJ_pm c M i j rfl
theorem cw_12 (c : HP) (M : MD) (i j : Nat) (x : Int32) : wI (pm c M) 12 i j x = pm (wI c 12 i j x) M := wI_cm c M i j x rfl
theorem cv_12 (c : HP) (M : MD) (i j : Nat) (x : Int64) : wJ (pm c M) 12 i j x = pm (wJ c 12 i j x) M := wJ_cm c M i j x rfl
theorem cI_13 (c : HP) (M : MD) (i j : Nat) : mI (pm c M) 13 i j = mI c 13 i j := cI_pm c M i j rfl
theorem cJ_13 (c : HP) (M : MD) (i j : Nat) : mJ (pm c M) 13 i j = mJ c 13 i j := cJ_pm c M i j rfl
theorem cw_13 (c : HP) (M : MD) (i j : Nat) (x : Int32) : wI (pm c M) 13 i j x = pm (wI c 13 i j x) M := wI_cm c M i j x rfl
theorem cv_13 (c : HP) (M : MD) (i j : Nat) (x : Int64) : wJ (pm c M) 13 i j x = pm (wJ c 13 i j x) M := wJ_cm c M i j x rfl
theorem cI_14 (c : HP) (M : MD) (i j : Nat) : mI (pm c M) 14 i j = mI c 14 i j := cI_pm c M i j rfl
theorem cJ_14 (c : HP) (M : MD) (i j : Nat) : mJ (pm c M) 14 i j = mJ c 14 i j := cJ_pm c M i j rfl
theorem cw_14 (c : HP) (M : MD) (i j : Nat) (x : Int32) : wI (pm c M) 14 i j x = pm (wI c 14 i j x) M := wI_cm c M i j x rfl
theorem cv_14 (c : HP) (M : MD) (i j : Nat) (x : Int64) : wJ (pm c M) 14 i j x = pm (wJ c 14 i j x) M := wJ_cm c M i j x rfl
theorem cI_15 (c : HP) (M : MD) (i j : Nat) : mI (pm c M) 15 i j = mI c 15 i j := cI_pm c M i j rfl
theorem cJ_15 (c : HP) (M : MD) (i j : Nat) : mJ (pm c M) 15 i j = mJ c 15 i j := cJ_pm c M i j rfl
theorem cw_15 (c : HP) (M : MD) (i j : Nat) (x : Int32) : wI (pm c M) 15 i j x = pm (wI c 15 i j x) M := wI_cm c M i j x rfl
theorem cv_15 (c : HP) (M : MD) (i j : Nat) (x : Int64) : wJ (pm c M) 15 i j x = pm (wJ c 15 i j x) M := wJ_cm c M i j x rfl
theorem cI_16 (c : HP) (M : MD) (i j : Nat) : mI (pm c M) 16 i j = mI c 16 i j := cI_pm c M i j rfl
theorem cJ_16 (c : HP) (M : MD) (i j : Nat) : mJ (pm c M) 16 i j = mJ c 16 i j := cJ_pm c M i j rfl
theorem cw_16 (c : HP) (M : MD) (i j : Nat) (x : Int32) : wI (pm c M) 16 i j x = pm (wI c 16 i j x) M := wI_cm c M i j x rfl
theorem cv_16 (c : HP) (M : MD) (i j : Nat) (x : Int64) : wJ (pm c M) 16 i j x = pm (wJ c 16 i j x) M := wJ_cm c M i j x rfl
theorem cI_17 (c : HP) (M : MD) (i j : Nat) : mI (pm c M) 17 i j = mI c 17 i j := cI_pm c M i j rfl
theorem cJ_17 (c : HP) (M : MD) (i j : Nat) : mJ (pm c M) 17 i j = mJ c 17 i j := cJ_pm c M i j rfl
theorem cw_17 (c : HP) (M : MD) (i j : Nat) (x : Int32) : wI (pm c M) 17 i j x = pm (wI c 17 i j x) M := wI_cm c M i j x rfl
theorem cv_17 (c : HP) (M : MD) (i j : Nat) (x : Int64) : wJ (pm c M) 17 i j x = pm (wJ c 17 i j x) M := wJ_cm c M i j x rfl
theorem cI_18 (c : HP) (M : MD) (i j : Nat) : mI (pm c M) 18 i j = mI c 18 i j := cI_pm c M i j rfl
theorem cJ_18 (c : HP) (M : MD) (i j : Nat) : mJ (pm c M) 18 i j = mJ c 18 i j := cJ_pm c M i j rfl
theorem cw_18 (c : HP) (M : MD) (i j : Nat) (x : Int32) : wI (pm c M) 18 i j x = pm (wI c 18 i j x) M := wI_cm c M i j x rfl
theorem cv_18 (c : HP) (M : MD) (i j : Nat) (x : Int64) : wJ (pm c M) 18 i j x = pm (wJ c 18 i j x) M := wJ_cm c M i j x rfl
theorem cI_19 (c : HP) (M : MD) (i j : Nat) : mI (pm c M) 19 i j = mI c 19 i j := cI_pm c M i j rfl
theorem cJ_19 (c : HP) (M : MD) (i j : Nat) : mJ (pm c M) 19 i j = mJ c 19 i j := cJ_pm c M i j rfl
theorem cw_19 (c : HP) (M : MD) (i j : Nat) (x : Int32) : wI (pm c M) 19 i j x = pm (wI c 19 i j x) M := wI_cm c M i j x rfl
theorem cv_19 (c : HP) (M : MD) (i j : Nat) (x : Int64) : wJ (pm c M) 19 i j x = pm (wJ c 19 i j x) M := wJ_cm c M i j x rfl
theorem cI_88 (c : HP) (M : MD) (i j : Nat) : mI (pm c M) 88 i j = mI c 88 i j := cI_pm c M i j rfl
theorem cJ_88 (c : HP) (M : MD) (i j : Nat) : mJ (pm c M) 88 i j = mJ c 88 i j := cJ_pm c M i j rfl
theorem cw_88 (c : HP) (M : MD) (i j : Nat) (x : Int32) : wI (pm c M) 88 i j x = pm (wI c 88 i j x) M := wI_cm c M i j x rfl
theorem cv_88 (c : HP) (M : MD) (i j : Nat) (x : Int64) : wJ (pm c M) 88 i j x = pm (wJ c 88 i j x) M := wJ_cm c M i j x rfl
theorem cI_89 (c : HP) (M : MD) (i j : Nat) : mI (pm c M) 89 i j = mI c 89 i j := cI_pm c M i j rfl
theorem cJ_89 (c : HP) (M : MD) (i j : Nat) : mJ (pm c M) 89 i j = mJ c 89 i j := cJ_pm c M i j rfl
theorem cw_89 (c : HP) (M : MD) (i j : Nat) (x : Int32) : wI (pm c M) 89 i j x = pm (wI c 89 i j x) M := wI_cm c M i j x rfl
theorem cv_89 (c : HP) (M : MD) (i j : Nat) (x : Int64) : wJ (pm c M) 89 i j x = pm (wJ c 89 i j x) M := wJ_cm c M i j x rfl
theorem cI_90 (c : HP) (M : MD) (i j : Nat) : mI (pm c M) 90 i j = mI c 90 i j := cI_pm c M i j rfl
theorem cJ_90 (c : HP) (M : MD) (i j : Nat) : mJ (pm c M) 90 i j = mJ c 90 i j := cJ_pm c M i j rfl
theorem cw_90 (c : HP) (M : MD) (i j : Nat) (x : Int32) : wI (pm c M) 90 i j x = pm (wI c 90 i j x) M := wI_cm c M i j x rfl
theorem cv_90 (c : HP) (M : MD) (i j : Nat) (x : Int64) : wJ (pm c M) 90 i j x = pm (wJ c 90 i j x) M := wJ_cm c M i j x rfl
theorem cI_127 (c : HP) (M : MD) (i j : Nat) : mI (pm c M) 127 i j = mI c 127 i j := cI_pm c M i j rfl
theorem cJ_127 (c : HP) (M : MD) (i j : Nat) : mJ (pm c M) 127 i j = mJ c 127 i j := cJ_pm c M i j rfl
theorem cw_127 (c : HP) (M : MD) (i j : Nat) (x : Int32) : wI (pm c M) 127 i j x = pm (wI c 127 i j x) M := wI_cm c M i j x rfl
theorem cv_127 (c : HP) (M : MD) (i j : Nat) (x : Int64) : wJ (pm c M) 127 i j x = pm (wJ c 127 i j x) M := wJ_cm c M i j x rfl
def SKM' (A : Nat → Nat → Bool) (L : Nat → Nat → Nat) (P : Nat → Nat → Nat → Option Nat) : Prop := A 7 0 = true ∧ P 7 2 0 = some (ob 20 0) ∧ L 20 0 = 12 ∧ P 7 3 0 = some (ob 21 0) ∧ L 21 0 = 12 ∧ P 7 4 0 = some (ob 22 0) ∧ L 22 0 = 12 ∧ P 7 5 0 = some (ob 23 0) ∧ L 23 0 = 12 ∧ P 7 6 0 = some (ob 24 0) ∧ L 24 0 = 12 ∧ P 7 7 0 = some (ob 91 0) ∧ L 91 0 = 720 ∧ P 7 12 0 = some (ob 25 0) ∧ L 25 0 = 150 ∧ P 7 13 0 = some (ob 26 0) ∧ L 26 0 = 150 ∧ P 7 14 0 = some (ob 27 0) ∧ L 27 0 = 150 ∧ P 7 15 0 = some (ob 28 0) ∧ L 28 0 = 150 ∧ P 7 16 0 = some (ob 29 0) ∧ L 29 0 = 150 ∧ P 7 17 0 = some (ob 30 0) ∧ L 30 0 = 150 ∧ P 7 18 0 = some (ob 31 0) ∧ L 31 0 = 150 ∧ P 7 19 0 = some (ob 92 0) ∧ L 92 0 = 150 ∧ P 7 21 0 = some (ob 32 0) ∧ L 32 0 = 8 ∧ P 7 23 0 = some (ob 33 0) ∧ L 33 0 = 8 ∧ P 7 24 0 = some (ob 34 0) ∧ L 34 0 = 8 ∧ P 7 27 0 = some (ob 35 0) ∧ L 35 0 = 3 ∧ P 7 28 0 = some (ob 36 0) ∧ L 36 0 = 3 ∧ P 7 29 0 = some (ob 37 0) ∧ L 37 0 = 3 ∧ P 7 30 0 = some (ob 38 0) ∧ L 38 0 = 24 ∧ P 7 31 0 = some (ob 39 0) ∧ L 39 0 = 3 ∧ P 7 32 0 = some (ob 40 0) ∧ L 40 0 = 3 ∧ P 7 33 0 = some (ob 41 0) ∧ L 41 0 = 3 ∧ P 7 34 0 = some (ob 42 0) ∧ L 42 0 = 2 ∧ P 7 35 0 = some (ob 43 0) ∧ L 43 0 = 2 ∧ P 7 36 0 = some (ob 80 0) ∧ L 80 0 = 2 ∧ P 7 37 0 = some (ob 44 0) ∧ L 44 0 = 2 ∧ P 7 38 0 = some (ob 45 0) ∧ L 45 0 = 2 ∧ P 7 39 0 = some (ob 46 0) ∧ L 46 0 = 2 ∧ P 7 40 0 = some (ob 81 0) ∧ L 81 0 = 2 ∧ P 7 43 0 = some (ob 47 0) ∧ L 47 0 = 8 ∧ P 7 44 0 = some (ob 48 0) ∧ L 48 0 = 8 ∧ P 7 45 0 = some (ob 49 0) ∧ L 49 0 = 8 ∧ P 7 46 0 = some (ob 50 0) ∧ L 50 0 = 8
def SKM (h : HP) : Prop := SKM' h.1 h.2.1 h.2.2.2.2
theorem SKM.a7 {h : HP} (hs : SKM h) : mA h 7 0 = true := hs.1
theorem SKM.p2 {h : HP} (hs : SKM h) : mP h 7 2 0 = some (ob 20 0) := hs.2.1
theorem SKM.l20 {h : HP} (hs : SKM h) : mL h 20 0 = 12 := hs.2.2.1
theorem SKM.p3 {h : HP} (hs : SKM h) : mP h 7 3 0 = some (ob 21 0) := hs.2.2.2.1
theorem SKM.l21 {h : HP} (hs : SKM h) : mL h 21 0 = 12 := hs.2.2.2.2.1
theorem SKM.p4 {h : HP} (hs : SKM h) : mP h 7 4 0 = some (ob 22 0) := hs.2.2.2.2.2.1
theorem SKM.l22 {h : HP} (hs : SKM h) : mL h 22 0 = 12 := hs.2.2.2.2.2.2.1
theorem SKM.p5 {h : HP} (hs : SKM h) : mP h 7 5 0 = some (ob 23 0) := hs.2.2.2.2.2.2.2.1
theorem SKM.l23 {h : HP} (hs : SKM h) : mL h 23 0 = 12 := hs.2.2.2.2.2.2.2.2.1
theorem SKM.p6 {h : HP} (hs : SKM h) : mP h 7 6 0 = some (ob 24 0) := hs.2.2.2.2.2.2.2.2.2.1
theorem SKM.l24 {h : HP} (hs : SKM h) : mL h 24 0 = 12 := hs.2.2.2.2.2.2.2.2.2.2.1
theorem SKM.p7 {h : HP} (hs : SKM h) : mP h 7 7 0 = some (ob 91 0) := hs.2.2.2.2.2.2.2.2.2.2.2.1
theorem SKM.l91 {h : HP} (hs : SKM h) : mL h 91 0 = 720 := hs.2.2.2.2.2.2.2.2.2.2.2.2.1
theorem SKM.p12 {h : HP} (hs : SKM h) : mP h 7 12 0 = some (ob 25 0) := hs.2.2.2.2.2.2.2.2.2.2.2.2.2.1
theorem SKM.l25 {h : HP} (hs : SKM h) : mL h 25 0 = 150 := hs.2.2.2.2.2.2.2.2.2.2.2.2.2.2.1
theorem SKM.p13 {h : HP} (hs : SKM h) : mP h 7 13 0 = some (ob 26 0) := hs.2.2.2.2.2.2.2.2.2.2.2.2.2.2.2.1
theorem SKM.l26 {h : HP} (hs : SKM h) : mL h 26 0 = 150 := hs.2.2.2.2.2.2.2.2.2.2.2.2.2.2.2.2.1
theorem SKM.p14 {h : HP} (hs : SKM h) : mP h 7 14 0 = some (ob 27 0) := hs.2.2.2.2.2.2.2.2.2.2.2.2.2.2.2.2.2.1
theorem SKM.l27 {h : HP} (hs : SKM h) : mL h 27 0 = 150 := hs.2.2.2.2.2.2.2.2.2.2.2.2.2.2.2.2.2.2.1
theorem SKM.p15 {h : HP} (hs : SKM h) : mP h 7 15 0 = some (ob 28 0) := hs.2.2.2.2.2.2.2.2.2.2.2.2.2.2.2.2.2.2.2.1
theorem SKM.l28 {h : HP} (hs : SKM h) : mL h 28 0 = 150 := hs.2.2.2.2.2.2.2.2.2.2.2.2.2.2.2.2.2.2.2.2.1
theorem SKM.p16 {h : HP} (hs : SKM h) : mP h 7 16 0 = some (ob 29 0) := hs.2.2.2.2.2.2.2.2.2.2.2.2.2.2.2.2.2.2.2.2.2.1
theorem SKM.l29 {h : HP} (hs : SKM h) : mL h 29 0 = 150 := hs.2.2.2.2.2.2.2.2.2.2.2.2.2.2.2.2.2.2.2.2.2.2.1
theorem SKM.p17 {h : HP} (hs : SKM h) : mP h 7 17 0 = some (ob 30 0) := hs.2.2.2.2.2.2.2.2.2.2.2.2.2.2.2.2.2.2.2.2.2.2.2.1
theorem SKM.l30 {h : HP} (hs : SKM h) : mL h 30 0 = 150 := hs.2.2.2.2.2.2.2.2.2.2.2.2.2.2.2.2.2.2.2.2.2.2.2.2.1
theorem SKM.p18 {h : HP} (hs : SKM h) : mP h 7 18 0 = some (ob 31 0) := hs.2.2.2.2.2.2.2.2.2.2.2.2.2.2.2.2.2.2.2.2.2.2.2.2.2.1
theorem SKM.l31 {h : HP} (hs : SKM h) : mL h 31 0 = 150 := hs.2.2.2.2.2.2.2.2.2.2.2.2.2.2.2.2.2.2.2.2.2.2.2.2.2.2.1
theorem SKM.p19 {h : HP} (hs : SKM h) : mP h 7 19 0 = some (ob 92 0) := hs.2.2.2.2.2.2.2.2.2.2.2.2.2.2.2.2.2.2.2.2.2.2.2.2.2.2.2.1
theorem SKM.l92 {h : HP} (hs : SKM h) : mL h 92 0 = 150 := hs.2.2.2.2.2.2.2.2.2.2.2.2.2.2.2.2.2.2.2.2.2.2.2.2.2.2.2.2.1
theorem SKM.p21 {h : HP} (hs : SKM h) : mP h 7 21 0 = some (ob 32 0) := hs.2.2.2.2.2.2.2.2.2.2.2.2.2.2.2.2.2.2.2.2.2.2.2.2.2.2.2.2.2.1
theorem SKM.l32 {h : HP} (hs : SKM h) : mL h 32 0 = 8 := hs.2.2.2.2.2.2.2.2.2.2.2.2.2.2.2.2.2.2.2.2.2.2.2.2.2.2.2.2.2.2.1
theorem SKM.p23 {h : HP} (hs : SKM h) : mP h 7 23 0 = some (ob 33 0) := hs.2.2.2.2.2.2.2.2.2.2.2.2.2.2.2.2.2.2.2.2.2.2.2.2.2.2.2.2.2.2.2.1
theorem SKM.l33 {h : HP} (hs : SKM h) : mL h 33 0 = 8 := hs.2.2.2.2.2.2.2.2.2.2.2.2.2.2.2.2.2.2.2.2.2.2.2.2.2.2.2.2.2.2.2.2.1
theorem SKM.p24 {h : HP} (hs : SKM h) : mP h 7 24 0 = some (ob 34 0) := hs.2.2.2.2.2.2.2.2.2.2.2.2.2.2.2.2.2.2.2.2.2.2.2.2.2.2.2.2.2.2.2.2.2.1
theorem SKM.l34 {h : HP} (hs : SKM h) : mL h 34 0 = 8 := hs.2.2.2.2.2.2.2.2.2.2.2.2.2.2.2.2.2.2.2.2.2.2.2.2.2.2.2.2.2.2.2.2.2.2.1
theorem SKM.p27 {h : HP} (hs : SKM h) : mP h 7 27 0 = some (ob 35 0) := hs.2.2.2.2.2.2.2.2.2.2.2.2.2.2.2.2.2.2.2.2.2.2.2.2.2.2.2.2.2.2.2.2.2.2.2.1
theorem SKM.l35 {h : HP} (hs : SKM h) : mL h 35 0 = 3 := hs.2.2.2.2.2.2.2.2.2.2.2.2.2.2.2.2.2.2.2.2.2.2.2.2.2.2.2.2.2.2.2.2.2.2.2.2.1
theorem SKM.p28 {h : HP} (hs : SKM h) : mP h 7 28 0 = some (ob 36 0) := hs.2.2.2.2.2.2.2.2.2.2.2.2.2.2.2.2.2.2.2.2.2.2.2.2.2.2.2.2.2.2.2.2.2.2.2.2.2.1
theorem SKM.l36 {h : HP} (hs : SKM h) : mL h 36 0 = 3 := hs.2.2.2.2.2.2.2.2.2.2.2.2.2.2.2.2.2.2.2.2.2.2.2.2.2.2.2.2.2.2.2.2.2.2.2.2.2.2.1
theorem SKM.p29 {h : HP} (hs : SKM h) : mP h 7 29 0 = some (ob 37 0) := hs.2.2.2.2.2.2.2.2.2.2.2.2.2.2.2.2.2.2.2.2.2.2.2.2.2.2.2.2.2.2.2.2.2.2.2.2.2.2.2.1
theorem SKM.l37 {h : HP} (hs : SKM h) : mL h 37 0 = 3 := hs.2.2.2.2.2.2.2.2.2.2.2.2.2.2.2.2.2.2.2.2.2.2.2.2.2.2.2.2.2.2.2.2.2.2.2.2.2.2.2.2.1
theorem SKM.p30 {h : HP} (hs : SKM h) : mP h 7 30 0 = some (ob 38 0) := hs.2.2.2.2.2.2.2.2.2.2.2.2.2.2.2.2.2.2.2.2.2.2.2.2.2.2.2.2.2.2.2.2.2.2.2.2.2.2.2.2.2.1
theorem SKM.l38 {h : HP} (hs : SKM h) : mL h 38 0 = 24 := hs.2.2.2.2.2.2.2.2.2.2.2.2.2.2.2.2.2.2.2.2.2.2.2.2.2.2.2.2.2.2.2.2.2.2.2.2.2.2.2.2.2.2.1
theorem SKM.p31 {h : HP} (hs : SKM h) : mP h 7 31 0 = some (ob 39 0) := hs.2.2.2.2.2.2.2.2.2.2.2.2.2.2.2.2.2.2.2.2.2.2.2.2.2.2.2.2.2.2.2.2.2.2.2.2.2.2.2.2.2.2.2.1
theorem SKM.l39 {h : HP} (hs : SKM h) : mL h 39 0 = 3 := hs.2.2.2.2.2.2.2.2.2.2.2.2.2.2.2.2.2.2.2.2.2.2.2.2.2.2.2.2.2.2.2.2.2.2.2.2.2.2.2.2.2.2.2.2.1
theorem SKM.p32 {h : HP} (hs : SKM h) : mP h 7 32 0 = some (ob 40 0) := hs.2.2.2.2.2.2.2.2.2.2.2.2.2.2.2.2.2.2.2.2.2.2.2.2.2.2.2.2.2.2.2.2.2.2.2.2.2.2.2.2.2.2.2.2.2.1
theorem SKM.l40 {h : HP} (hs : SKM h) : mL h 40 0 = 3 := hs.2.2.2.2.2.2.2.2.2.2.2.2.2.2.2.2.2.2.2.2.2.2.2.2.2.2.2.2.2.2.2.2.2.2.2.2.2.2.2.2.2.2.2.2.2.2.1
theorem SKM.p33 {h : HP} (hs : SKM h) : mP h 7 33 0 = some (ob 41 0) := hs.2.2.2.2.2.2.2.2.2.2.2.2.2.2.2.2.2.2.2.2.2.2.2.2.2.2.2.2.2.2.2.2.2.2.2.2.2.2.2.2.2.2.2.2.2.2.2.1
theorem SKM.l41 {h : HP} (hs : SKM h) : mL h 41 0 = 3 := hs.2.2.2.2.2.2.2.2.2.2.2.2.2.2.2.2.2.2.2.2.2.2.2.2.2.2.2.2.2.2.2.2.2.2.2.2.2.2.2.2.2.2.2.2.2.2.2.2.1
theorem SKM.p34 {h : HP} (hs : SKM h) : mP h 7 34 0 = some (ob 42 0) := hs.2.2.2.2.2.2.2.2.2.2.2.2.2.2.2.2.2.2.2.2.2.2.2.2.2.2.2.2.2.2.2.2.2.2.2.2.2.2.2.2.2.2.2.2.2.2.2.2.2.1
theorem SKM.l42 {h : HP} (hs : SKM h) : mL h 42 0 = 2 := hs.2.2.2.2.2.2.2.2.2.2.2.2.2.2.2.2.2.2.2.2.2.2.2.2.2.2.2.2.2.2.2.2.2.2.2.2.2.2.2.2.2.2.2.2.2.2.2.2.2.2.1
theorem SKM.p35 {h : HP} (hs : SKM h) : mP h 7 35 0 = some (ob 43 0) := hs.2.2.2.2.2.2.2.2.2.2.2.2.2.2.2.2.2.2.2.2.2.2.2.2.2.2.2.2.2.2.2.2.2.2.2.2.2.2.2.2.2.2.2.2.2.2.2.2.2.2.2.1
theorem SKM.l43 {h : HP} (hs : SKM h) : mL h 43 0 = 2 := hs.2.2.2.2.2.2.2.2.2.2.2.2.2.2.2.2.2.2.2.2.2.2.2.2.2.2.2.2.2.2.2.2.2.2.2.2.2.2.2.2.2.2.2.2.2.2.2.2.2.2.2.2.1
theorem SKM.p36 {h : HP} (hs : SKM h) : mP h 7 36 0 = some (ob 80 0) := hs.2.2.2.2.2.2.2.2.2.2.2.2.2.2.2.2.2.2.2.2.2.2.2.2.2.2.2.2.2.2.2.2.2.2.2.2.2.2.2.2.2.2.2.2.2.2.2.2.2.2.2.2.2.1
theorem SKM.l80 {h : HP} (hs : SKM h) : mL h 80 0 = 2 := hs.2.2.2.2.2.2.2.2.2.2.2.2.2.2.2.2.2.2.2.2.2.2.2.2.2.2.2.2.2.2.2.2.2.2.2.2.2.2.2.2.2.2.2.2.2.2.2.2.2.2.2.2.2.2.1
theorem SKM.p37 {h : HP} (hs : SKM h) : mP h 7 37 0 = some (ob 44 0) := hs.2.2.2.2.2.2.2.2.2.2.2.2.2.2.2.2.2.2.2.2.2.2.2.2.2.2.2.2.2.2.2.2.2.2.2.2.2.2.2.2.2.2.2.2.2.2.2.2.2.2.2.2.2.2.2.1
theorem SKM.l44 {h : HP} (hs : SKM h) : mL h 44 0 = 2 := hs.2.2.2.2.2.2.2.2.2.2.2.2.2.2.2.2.2.2.2.2.2.2.2.2.2.2.2.2.2.2.2.2.2.2.2.2.2.2.2.2.2.2.2.2.2.2.2.2.2.2.2.2.2.2.2.2.1
theorem SKM.p38 {h : HP} (hs : SKM h) : mP h 7 38 0 = some (ob 45 0) := hs.2.2.2.2.2.2.2.2.2.2.2.2.2.2.2.2.2.2.2.2.2.2.2.2.2.2.2.2.2.2.2.2.2.2.2.2.2.2.2.2.2.2.2.2.2.2.2.2.2.2.2.2.2.2.2.2.2.1
theorem SKM.l45 {h : HP} (hs : SKM h) : mL h 45 0 = 2 := hs.2.2.2.2.2.2.2.2.2.2.2.2.2.2.2.2.2.2.2.2.2.2.2.2.2.2.2.2.2.2.2.2.2.2.2.2.2.2.2.2.2.2.2.2.2.2.2.2.2.2.2.2.2.2.2.2.2.2.1
theorem SKM.p39 {h : HP} (hs : SKM h) : mP h 7 39 0 = some (ob 46 0) := hs.2.2.2.2.2.2.2.2.2.2.2.2.2.2.2.2.2.2.2.2.2.2.2.2.2.2.2.2.2.2.2.2.2.2.2.2.2.2.2.2.2.2.2.2.2.2.2.2.2.2.2.2.2.2.2.2.2.2.2.1
theorem SKM.l46 {h : HP} (hs : SKM h) : mL h 46 0 = 2 := hs.2.2.2.2.2.2.2.2.2.2.2.2.2.2.2.2.2.2.2.2.2.2.2.2.2.2.2.2.2.2.2.2.2.2.2.2.2.2.2.2.2.2.2.2.2.2.2.2.2.2.2.2.2.2.2.2.2.2.2.2.1
theorem SKM.p40 {h : HP} (hs : SKM h) : mP h 7 40 0 = some (ob 81 0) := hs.2.2.2.2.2.2.2.2.2.2.2.2.2.2.2.2.2.2.2.2.2.2.2.2.2.2.2.2.2.2.2.2.2.2.2.2.2.2.2.2.2.2.2.2.2.2.2.2.2.2.2.2.2.2.2.2.2.2.2.2.2.1
theorem SKM.l81 {h : HP} (hs : SKM h) : mL h 81 0 = 2 := hs.2.2.2.2.2.2.2.2.2.2.2.2.2.2.2.2.2.2.2.2.2.2.2.2.2.2.2.2.2.2.2.2.2.2.2.2.2.2.2.2.2.2.2.2.2.2.2.2.2.2.2.2.2.2.2.2.2.2.2.2.2.2.1
theorem SKM.p43 {h : HP} (hs : SKM h) : mP h 7 43 0 = some (ob 47 0) := hs.2.2.2.2.2.2.2.2.2.2.2.2.2.2.2.2.2.2.2.2.2.2.2.2.2.2.2.2.2.2.2.2.2.2.2.2.2.2.2.2.2.2.2.2.2.2.2.2.2.2.2.2.2.2.2.2.2.2.2.2.2.2.2.1
theorem SKM.l47 {h : HP} (hs : SKM h) : mL h 47 0 = 8 := hs.2.2.2.2.2.2.2.2.2.2.2.2.2.2.2.2.2.2.2.2.2.2.2.2.2.2.2.2.2.2.2.2.2.2.2.2.2.2.2.2.2.2.2.2.2.2.2.2.2.2.2.2.2.2.2.2.2.2.2.2.2.2.2.2.1
theorem SKM.p44 {h : HP} (hs : SKM h) : mP h 7 44 0 = some (ob 48 0) := hs.2.2.2.2.2.2.2.2.2.2.2.2.2.2.2.2.2.2.2.2.2.2.2.2.2.2.2.2.2.2.2.2.2.2.2.2.2.2.2.2.2.2.2.2.2.2.2.2.2.2.2.2.2.2.2.2.2.2.2.2.2.2.2.2.2.1
theorem SKM.l48 {h : HP} (hs : SKM h) : mL h 48 0 = 8 := hs.2.2.2.2.2.2.2.2.2.2.2.2.2.2.2.2.2.2.2.2.2.2.2.2.2.2.2.2.2.2.2.2.2.2.2.2.2.2.2.2.2.2.2.2.2.2.2.2.2.2.2.2.2.2.2.2.2.2.2.2.2.2.2.2.2.2.1
theorem SKM.p45 {h : HP} (hs : SKM h) : mP h 7 45 0 = some (ob 49 0) := hs.2.2.2.2.2.2.2.2.2.2.2.2.2.2.2.2.2.2.2.2.2.2.2.2.2.2.2.2.2.2.2.2.2.2.2.2.2.2.2.2.2.2.2.2.2.2.2.2.2.2.2.2.2.2.2.2.2.2.2.2.2.2.2.2.2.2.2.1
theorem SKM.l49 {h : HP} (hs : SKM h) : mL h 49 0 = 8 := hs.2.2.2.2.2.2.2.2.2.2.2.2.2.2.2.2.2.2.2.2.2.2.2.2.2.2.2.2.2.2.2.2.2.2.2.2.2.2.2.2.2.2.2.2.2.2.2.2.2.2.2.2.2.2.2.2.2.2.2.2.2.2.2.2.2.2.2.2.1
theorem SKM.p46 {h : HP} (hs : SKM h) : mP h 7 46 0 = some (ob 50 0) := hs.2.2.2.2.2.2.2.2.2.2.2.2.2.2.2.2.2.2.2.2.2.2.2.2.2.2.2.2.2.2.2.2.2.2.2.2.2.2.2.2.2.2.2.2.2.2.2.2.2.2.2.2.2.2.2.2.2.2.2.2.2.2.2.2.2.2.2.2.2.1
theorem SKM.l50 {h : HP} (hs : SKM h) : mL h 50 0 = 8 := hs.2.2.2.2.2.2.2.2.2.2.2.2.2.2.2.2.2.2.2.2.2.2.2.2.2.2.2.2.2.2.2.2.2.2.2.2.2.2.2.2.2.2.2.2.2.2.2.2.2.2.2.2.2.2.2.2.2.2.2.2.2.2.2.2.2.2.2.2.2.2
def SKF' (A : Nat → Nat → Bool) (L : Nat → Nat → Nat) (P : Nat → Nat → Nat → Option Nat) : Prop := A 6 0 = true ∧ A 2 0 = true ∧ A 4 0 = true ∧ A 0 0 = true ∧ A 0 1 = true ∧ P 6 0 0 = some (ob 96 0) ∧ P 6 1 0 = some (ob 97 0) ∧ P 6 2 0 = some (ob 98 0) ∧ P 6 3 0 = some (ob 0 0) ∧ P 6 4 0 = some (ob 0 1) ∧ P 6 5 0 = some (ob 2 0) ∧ P 6 6 0 = some (ob 4 0) ∧ P 2 0 0 = some (ob 8 0) ∧ L 8 0 = 8 ∧ P 2 1 0 = some (ob 9 0) ∧ L 9 0 = 8 ∧ P 2 2 0 = some (ob 10 0) ∧ L 10 0 = 8 ∧ P 2 3 0 = some (ob 11 0) ∧ L 11 0 = 200 ∧ P 2 4 0 = some (ob 12 0) ∧ L 12 0 = 200 ∧ P 2 5 0 = some (ob 13 0) ∧ L 13 0 = 24 ∧ P 2 6 0 = some (ob 14 0) ∧ L 14 0 = 6144 ∧ P 2 7 0 = some (ob 15 0) ∧ L 15 0 = 8 ∧ P 4 0 0 = some (ob 16 0) ∧ L 16 0 = 8 ∧ P 4 1 0 = some (ob 17 0) ∧ L 17 0 = 8 ∧ P 4 2 0 = some (ob 18 0) ∧ L 18 0 = 8 ∧ P 4 3 0 = some (ob 88 0) ∧ L 88 0 = 256 ∧ L 96 0 = 12 ∧ L 97 0 = 3 ∧ L 98 0 = 150
def SKF (h : HP) : Prop := SKF' h.1 h.2.1 h.2.2.2.2
theorem SKF.a6 {h : HP} (hs : SKF h) : mA h 6 0 = true := hs.1
theorem SKF.a2 {h : HP} (hs : SKF h) : mA h 2 0 = true := hs.2.1
theorem SKF.a4 {h : HP} (hs : SKF h) : mA h 4 0 = true := hs.2.2.1
theorem SKF.a0 {h : HP} (hs : SKF h) : mA h 0 0 = true := hs.2.2.2.1
theorem SKF.a1 {h : HP} (hs : SKF h) : mA h 0 1 = true := hs.2.2.2.2.1
theorem SKF.p6_0 {h : HP} (hs : SKF h) : mP h 6 0 0 = some (ob 96 0) := hs.2.2.2.2.2.1
theorem SKF.p6_1 {h : HP} (hs : SKF h) : mP h 6 1 0 = some (ob 97 0) := hs.2.2.2.2.2.2.1
theorem SKF.p6_2 {h : HP} (hs : SKF h) : mP h 6 2 0 = some (ob 98 0) := hs.2.2.2.2.2.2.2.1
theorem SKF.p6_3 {h : HP} (hs : SKF h) : mP h 6 3 0 = some (ob 0 0) := hs.2.2.2.2.2.2.2.2.1
theorem SKF.p6_4 {h : HP} (hs : SKF h) : mP h 6 4 0 = some (ob 0 1) := hs.2.2.2.2.2.2.2.2.2.1
theorem SKF.p6_5 {h : HP} (hs : SKF h) : mP h 6 5 0 = some (ob 2 0) := hs.2.2.2.2.2.2.2.2.2.2.1
theorem SKF.p6_6 {h : HP} (hs : SKF h) : mP h 6 6 0 = some (ob 4 0) := hs.2.2.2.2.2.2.2.2.2.2.2.1
theorem SKF.p2_0 {h : HP} (hs : SKF h) : mP h 2 0 0 = some (ob 8 0) := hs.2.2.2.2.2.2.2.2.2.2.2.2.1
theorem SKF.l8 {h : HP} (hs : SKF h) : mL h 8 0 = 8 := hs.2.2.2.2.2.2.2.2.2.2.2.2.2.1
theorem SKF.p2_1 {h : HP} (hs : SKF h) : mP h 2 1 0 = some (ob 9 0) := hs.2.2.2.2.2.2.2.2.2.2.2.2.2.2.1
theorem SKF.l9 {h : HP} (hs : SKF h) : mL h 9 0 = 8 := hs.2.2.2.2.2.2.2.2.2.2.2.2.2.2.2.1
theorem SKF.p2_2 {h : HP} (hs : SKF h) : mP h 2 2 0 = some (ob 10 0) := hs.2.2.2.2.2.2.2.2.2.2.2.2.2.2.2.2.1
theorem SKF.l10 {h : HP} (hs : SKF h) : mL h 10 0 = 8 := hs.2.2.2.2.2.2.2.2.2.2.2.2.2.2.2.2.2.1
theorem SKF.p2_3 {h : HP} (hs : SKF h) : mP h 2 3 0 = some (ob 11 0) := hs.2.2.2.2.2.2.2.2.2.2.2.2.2.2.2.2.2.2.1
theorem SKF.l11 {h : HP} (hs : SKF h) : mL h 11 0 = 200 := hs.2.2.2.2.2.2.2.2.2.2.2.2.2.2.2.2.2.2.2.1
theorem SKF.p2_4 {h : HP} (hs : SKF h) : mP h 2 4 0 = some (ob 12 0) := hs.2.2.2.2.2.2.2.2.2.2.2.2.2.2.2.2.2.2.2.2.1
theorem SKF.l12 {h : HP} (hs : SKF h) : mL h 12 0 = 200 := hs.2.2.2.2.2.2.2.2.2.2.2.2.2.2.2.2.2.2.2.2.2.1
theorem SKF.p2_5 {h : HP} (hs : SKF h) : mP h 2 5 0 = some (ob 13 0) := hs.2.2.2.2.2.2.2.2.2.2.2.2.2.2.2.2.2.2.2.2.2.2.1
theorem SKF.l13 {h : HP} (hs : SKF h) : mL h 13 0 = 24 := hs.2.2.2.2.2.2.2.2.2.2.2.2.2.2.2.2.2.2.2.2.2.2.2.1
theorem SKF.p2_6 {h : HP} (hs : SKF h) : mP h 2 6 0 = some (ob 14 0) := hs.2.2.2.2.2.2.2.2.2.2.2.2.2.2.2.2.2.2.2.2.2.2.2.2.1
theorem SKF.l14 {h : HP} (hs : SKF h) : mL h 14 0 = 6144 := hs.2.2.2.2.2.2.2.2.2.2.2.2.2.2.2.2.2.2.2.2.2.2.2.2.2.1
theorem SKF.p2_7 {h : HP} (hs : SKF h) : mP h 2 7 0 = some (ob 15 0) := hs.2.2.2.2.2.2.2.2.2.2.2.2.2.2.2.2.2.2.2.2.2.2.2.2.2.2.1
theorem SKF.l15 {h : HP} (hs : SKF h) : mL h 15 0 = 8 := hs.2.2.2.2.2.2.2.2.2.2.2.2.2.2.2.2.2.2.2.2.2.2.2.2.2.2.2.1
theorem SKF.p4_0 {h : HP} (hs : SKF h) : mP h 4 0 0 = some (ob 16 0) := hs.2.2.2.2.2.2.2.2.2.2.2.2.2.2.2.2.2.2.2.2.2.2.2.2.2.2.2.2.1
theorem SKF.l16 {h : HP} (hs : SKF h) : mL h 16 0 = 8 := hs.2.2.2.2.2.2.2.2.2.2.2.2.2.2.2.2.2.2.2.2.2.2.2.2.2.2.2.2.2.1
theorem SKF.p4_1 {h : HP} (hs : SKF h) : mP h 4 1 0 = some (ob 17 0) := hs.2.2.2.2.2.2.2.2.2.2.2.2.2.2.2.2.2.2.2.2.2.2.2.2.2.2.2.2.2.2.1
theorem SKF.l17 {h : HP} (hs : SKF h) : mL h 17 0 = 8 := hs.2.2.2.2.2.2.2.2.2.2.2.2.2.2.2.2.2.2.2.2.2.2.2.2.2.2.2.2.2.2.2.1
theorem SKF.p4_2 {h : HP} (hs : SKF h) : mP h 4 2 0 = some (ob 18 0) := hs.2.2.2.2.2.2.2.2.2.2.2.2.2.2.2.2.2.2.2.2.2.2.2.2.2.2.2.2.2.2.2.2.1
theorem SKF.l18 {h : HP} (hs : SKF h) : mL h 18 0 = 8 := hs.2.2.2.2.2.2.2.2.2.2.2.2.2.2.2.2.2.2.2.2.2.2.2.2.2.2.2.2.2.2.2.2.2.1
theorem SKF.p4_3 {h : HP} (hs : SKF h) : mP h 4 3 0 = some (ob 88 0) := hs.2.2.2.2.2.2.2.2.2.2.2.2.2.2.2.2.2.2.2.2.2.2.2.2.2.2.2.2.2.2.2.2.2.2.1
theorem SKF.l88 {h : HP} (hs : SKF h) : mL h 88 0 = 256 := hs.2.2.2.2.2.2.2.2.2.2.2.2.2.2.2.2.2.2.2.2.2.2.2.2.2.2.2.2.2.2.2.2.2.2.2.1
theorem SKF.l96 {h : HP} (hs : SKF h) : mL h 96 0 = 12 := hs.2.2.2.2.2.2.2.2.2.2.2.2.2.2.2.2.2.2.2.2.2.2.2.2.2.2.2.2.2.2.2.2.2.2.2.2.1
theorem SKF.l97 {h : HP} (hs : SKF h) : mL h 97 0 = 3 := hs.2.2.2.2.2.2.2.2.2.2.2.2.2.2.2.2.2.2.2.2.2.2.2.2.2.2.2.2.2.2.2.2.2.2.2.2.2.1
theorem SKF.l98 {h : HP} (hs : SKF h) : mL h 98 0 = 150 := hs.2.2.2.2.2.2.2.2.2.2.2.2.2.2.2.2.2.2.2.2.2.2.2.2.2.2.2.2.2.2.2.2.2.2.2.2.2.2
